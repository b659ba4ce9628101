/-! ChairFrontModel.fault -/
def rm_X9_fault : Room := { frames := 0, cells := 0, slots := 0, locals := 0 }
theorem ci_X9_fault : CI yX9_fault RX9 cX9_fault 1 (some .int) 0 := ⟨q_1068, q_1069, q_65, q_1070, by decide +kernel⟩
def w_X9_fault (s0 : ST) (Q : Int32 → ST → Prop) : Prop := ∀ s1 : ST, s1 = up s0 63 0 0 → (Q (s1 63 43) s1)
set_option maxRecDepth 100000 in
set_option maxHeartbeats 4000000 in
theorem c_X9_fault {l : Launch} (X : XT) (s0 : ST) (Q : Int32 → ST → Prop) (h : w_X9_fault s0 Q) : MetI l yX9_fault (wS yX9_fault cX9_fault 1 (some .int)) rm_X9_fault X s0 [.ref (xa X 63)] Q := by
  refine metG (own := RX9) (k := 0) (lv0 := [some (.ref (xa X 63))]) (by decide) rfl rfl rfl ?_
  intro p e s m args below meth c E hr
  refine r_aload_n (pc := 0) E dX9_fault_0 rfl rfl ?_
  refine r_iconst (pc := 1) (v := 0) E dX9_fault_1 (by decide) ?_
  refine r_put (pc := 2) (j := 0) E ok_63 kc_9 rfl q_776 rfl rfl rfl dX9_fault_2 (fun s1 es1 => ?_)
  have h := h s1 es1
  refine r_aload_n (pc := 5) E dX9_fault_5 rfl rfl ?_
  refine r_get (pc := 6) (j := 43) E ok_63 kc_9 rfl q_819 (svI rfl) dX9_fault_6 ?_
  exact r_iret (pc := 9) E hr dX9_fault_9 h

/-! ChairFrontModel.rent -/
def rm_X9_rent : Room := { frames := 1, cells := 0, slots := 0, locals := 25 }
theorem ci_X9_rent : CI yX9_rent RX9 cX9_rent 7 (some .int) 1 := ⟨q_1072, q_1073, q_65, q_1074, by decide +kernel⟩
def w_X9_rent_L54 (v2 : Int32) (K : ST → Int32 → Prop) (Q : Int32 → ST → Prop) : Nat → ST → Int32 → Int32 → Int32 → Prop
  | 0, _, _, _, _ => False
  | n + 1, s0, v3, v4, v5 => (((s0 63 31) ≤ v5 → (K s0 v3)) ∧ (¬ ((s0 63 31) ≤ v5) → (vp_in v5 5 ∧ ((((s0 80 v5.toNatClampNeg) ≤ v2 → (vp_in v5 5 ∧ (∀ x1 : Int32, x1 = (s0 80 v5.toNatClampNeg) → (((x1 ≤ v4 → (∀ x2 : Int32, x2 = (v3 + 0) → (vp_in v5 5 ∧ (∀ x3 : Int32, x3 = (s0 80 v5.toNatClampNeg) → (∀ x4 : Int32, x4 = v5 + 1 → (w_X9_rent_L54 v2 K Q n s0 x2 x3 x4)))))) ∧ (¬ (x1 ≤ v4) → (vp_in v5 5 ∧ (∀ x5 : Int32, x5 = (v3 + (((x1 - v4) * (s0 81 v5.toNatClampNeg)) / 100)) → (vp_in v5 5 ∧ (∀ x6 : Int32, x6 = (s0 80 v5.toNatClampNeg) → (∀ x7 : Int32, x7 = v5 + 1 → (w_X9_rent_L54 v2 K Q n s0 x5 x6 x7)))))))))))) ∧ (¬ ((s0 80 v5.toNatClampNeg) ≤ v2) → (((v2 ≤ v4 → (∀ x8 : Int32, x8 = (v3 + 0) → (vp_in v5 5 ∧ (∀ x9 : Int32, x9 = (s0 80 v5.toNatClampNeg) → (∀ x10 : Int32, x10 = v5 + 1 → (w_X9_rent_L54 v2 K Q n s0 x8 x9 x10)))))) ∧ (¬ (v2 ≤ v4) → (vp_in v5 5 ∧ (∀ x11 : Int32, x11 = (v3 + (((v2 - v4) * (s0 81 v5.toNatClampNeg)) / 100)) → (vp_in v5 5 ∧ (∀ x12 : Int32, x12 = (s0 80 v5.toNatClampNeg) → (∀ x13 : Int32, x13 = v5 + 1 → (w_X9_rent_L54 v2 K Q n s0 x11 x12 x13)))))))))))))))
set_option maxRecDepth 100000 in
set_option maxHeartbeats 4000000 in
theorem t_X9_rent_L54 {p : Program} {l : Launch} {e : Env} {s : State} {m : MethodId} {args : Array Value} {below : List Frame} {meth : Method} {c : Code} {X : XT} (E : Ev p rm_X9_rent s m args meth c X (xA X) 7 0 0 cX9_rent RX9) (hr : meth.sig.returnType = (some .int)) {v2 : Int32} {K : ST → Int32 → Prop} {Q : Int32 → ST → Prop} (hK : ∀ (s0 : ST) (v3 : Int32), K s0 v3 → G p l e rm_X9_rent s m args below meth c X (xA X) 7 0 0 (MQ below (va_Qi Q (Bw X) (xA X)) args s 0 0 (xA X)) s0 132 [none, none, none, some (.int v3), none, none, none] []) : ∀ (n : Nat) (s0 : ST) (v3 : Int32) (v4 : Int32) (v5 : Int32), w_X9_rent_L54 v2 K Q n s0 v3 v4 v5 → G p l e rm_X9_rent s m args below meth c X (xA X) 7 0 0 (MQ below (va_Qi Q (Bw X) (xA X)) args s 0 0 (xA X)) s0 54 [some (.ref (xa X 63)), none, some (.int v2), some (.int v3), some (.int v4), some (.int v5), none] [] := by
  intro n
  induction n with
  | zero => intro s0 v3 v4 v5 h; exact h.elim
  | succ n ih =>
    intro s0 v3 v4 v5 h
    refine r_iload (pc := 54) E dX9_rent_54 rfl ?_
    refine r_aload_n (pc := 56) E dX9_rent_56 rfl rfl ?_
    refine r_get (pc := 57) (j := 31) E ok_63 kc_9 rfl q_807 (svI rfl) dX9_rent_57 ?_
    refine r_icmp_ge (pc := 60) (tgt := 132) E dX9_rent_60 (by decide) (fun c3 => ?_) (fun c3 => ?_)
    · have h := h.1 c3
      exact r_forget (le_n (le_n (le_n (le_s (le_n (le_n (le_n le_0))))))) (hK _ _ h)
    · have h := h.2 c3
      refine r_iload_n (pc := 63) E dX9_rent_63 rfl rfl ?_
      refine r_aload_n (pc := 64) E dX9_rent_64 rfl rfl ?_
      refine r_get (pc := 65) (j := 32) (v := .ref (xa X 80)) E ok_63 kc_9 rfl q_808 rfl dX9_rent_65 ?_
      refine r_iload (pc := 68) E dX9_rent_68 rfl ?_
      refine r_iald (pc := 70) (n := 5) E ok_80 rfl h.1 dX9_rent_70 ?_
      have h := h.2
      refine r_icmp_ge (pc := 71) (tgt := 78) E dX9_rent_71 (by decide) (fun c4 => ?_) (fun c4 => ?_)
      · have h := h.1 c4
        refine r_aload_n (pc := 78) E dX9_rent_78 rfl rfl ?_
        refine r_get (pc := 79) (j := 32) (v := .ref (xa X 80)) E ok_63 kc_9 rfl q_808 rfl dX9_rent_79 ?_
        refine r_iload (pc := 82) E dX9_rent_82 rfl ?_
        refine r_iald (pc := 84) (n := 5) E ok_80 rfl h.1 dX9_rent_84 ?_
        have h := h.2
        refine r_topi (fun x1 ex1 => ?_)
        have h := h x1 ex1
        refine r_istore (pc := 85) (lv' := [some (.ref (xa X 63)), none, some (.int v2), some (.int v3), some (.int v4), some (.int v5), some (.int x1)]) E dX9_rent_85 rfl rfl rfl ?_
        refine r_iload_n (pc := 87) E dX9_rent_87 rfl rfl ?_
        refine r_iload (pc := 88) E dX9_rent_88 rfl ?_
        refine r_iload (pc := 90) E dX9_rent_90 rfl ?_
        refine r_icmp_le (pc := 92) (tgt := 114) E dX9_rent_92 (by decide) (fun c5 => ?_) (fun c5 => ?_)
        · have h := h.1 c5
          refine r_iconst (pc := 114) (v := 0) E dX9_rent_114 (by decide) ?_
          refine r_iadd (pc := 115) E dX9_rent_115 ?_
          refine r_topi (fun x2 ex2 => ?_)
          have h := h x2 ex2
          refine r_istore_n (pc := 116) (lv' := [some (.ref (xa X 63)), none, some (.int v2), some (.int x2), some (.int v4), some (.int v5), some (.int x1)]) E dX9_rent_116 rfl rfl rfl rfl ?_
          refine r_aload_n (pc := 117) E dX9_rent_117 rfl rfl ?_
          refine r_get (pc := 118) (j := 32) (v := .ref (xa X 80)) E ok_63 kc_9 rfl q_808 rfl dX9_rent_118 ?_
          refine r_iload (pc := 121) E dX9_rent_121 rfl ?_
          refine r_iald (pc := 123) (n := 5) E ok_80 rfl h.1 dX9_rent_123 ?_
          have h := h.2
          refine r_topi (fun x3 ex3 => ?_)
          have h := h x3 ex3
          refine r_istore (pc := 124) (lv' := [some (.ref (xa X 63)), none, some (.int v2), some (.int x2), some (.int x3), some (.int v5), some (.int x1)]) E dX9_rent_124 rfl rfl rfl ?_
          obtain ⟨x4, ex4⟩ : ∃ z : Int32, z = v5 + 1 := ⟨_, rfl⟩
          have h := h x4 ex4
          refine r_iinc (pc := 126) (v := 1) (lv' := [some (.ref (xa X 63)), none, some (.int v2), some (.int x2), some (.int x3), some (.int x4), some (.int x1)]) E dX9_rent_126 rfl (by decide) rfl rfl (by rw [ex4]; rfl) ?_
          refine r_goto (pc := 129) (tgt := 54) E dX9_rent_129 (by decide) ?_
          exact r_forget (le_s (le_n (le_s (le_s (le_s (le_s (le_n le_0))))))) (ih _ _ _ _ h)
        · have h := h.2 c5
          refine r_iload (pc := 95) E dX9_rent_95 rfl ?_
          refine r_iload (pc := 97) E dX9_rent_97 rfl ?_
          refine r_isub (pc := 99) E dX9_rent_99 ?_
          refine r_aload_n (pc := 100) E dX9_rent_100 rfl rfl ?_
          refine r_get (pc := 101) (j := 33) (v := .ref (xa X 81)) E ok_63 kc_9 rfl q_809 rfl dX9_rent_101 ?_
          refine r_iload (pc := 104) E dX9_rent_104 rfl ?_
          refine r_iald (pc := 106) (n := 5) E ok_81 rfl h.1 dX9_rent_106 ?_
          have h := h.2
          refine r_imul (pc := 107) E dX9_rent_107 ?_
          refine r_bipush (pc := 108) (v := 100) E dX9_rent_108 (by decide) ?_
          refine r_idiv (pc := 110) E dX9_rent_110 (by decide) ?_
          refine r_goto (pc := 111) (tgt := 115) E dX9_rent_111 (by decide) ?_
          refine r_iadd (pc := 115) E dX9_rent_115 ?_
          refine r_topi (fun x5 ex5 => ?_)
          have h := h x5 ex5
          refine r_istore_n (pc := 116) (lv' := [some (.ref (xa X 63)), none, some (.int v2), some (.int x5), some (.int v4), some (.int v5), some (.int x1)]) E dX9_rent_116 rfl rfl rfl rfl ?_
          refine r_aload_n (pc := 117) E dX9_rent_117 rfl rfl ?_
          refine r_get (pc := 118) (j := 32) (v := .ref (xa X 80)) E ok_63 kc_9 rfl q_808 rfl dX9_rent_118 ?_
          refine r_iload (pc := 121) E dX9_rent_121 rfl ?_
          refine r_iald (pc := 123) (n := 5) E ok_80 rfl h.1 dX9_rent_123 ?_
          have h := h.2
          refine r_topi (fun x6 ex6 => ?_)
          have h := h x6 ex6
          refine r_istore (pc := 124) (lv' := [some (.ref (xa X 63)), none, some (.int v2), some (.int x5), some (.int x6), some (.int v5), some (.int x1)]) E dX9_rent_124 rfl rfl rfl ?_
          obtain ⟨x7, ex7⟩ : ∃ z : Int32, z = v5 + 1 := ⟨_, rfl⟩
          have h := h x7 ex7
          refine r_iinc (pc := 126) (v := 1) (lv' := [some (.ref (xa X 63)), none, some (.int v2), some (.int x5), some (.int x6), some (.int x7), some (.int x1)]) E dX9_rent_126 rfl (by decide) rfl rfl (by rw [ex7]; rfl) ?_
          refine r_goto (pc := 129) (tgt := 54) E dX9_rent_129 (by decide) ?_
          exact r_forget (le_s (le_n (le_s (le_s (le_s (le_s (le_n le_0))))))) (ih _ _ _ _ h)
      · have h := h.2 c4
        refine r_iload_n (pc := 74) E dX9_rent_74 rfl rfl ?_
        refine r_goto (pc := 75) (tgt := 85) E dX9_rent_75 (by decide) ?_
        refine r_istore (pc := 85) (lv' := [some (.ref (xa X 63)), none, some (.int v2), some (.int v3), some (.int v4), some (.int v5), some (.int v2)]) E dX9_rent_85 rfl rfl rfl ?_
        refine r_iload_n (pc := 87) E dX9_rent_87 rfl rfl ?_
        refine r_iload (pc := 88) E dX9_rent_88 rfl ?_
        refine r_iload (pc := 90) E dX9_rent_90 rfl ?_
        refine r_icmp_le (pc := 92) (tgt := 114) E dX9_rent_92 (by decide) (fun c6 => ?_) (fun c6 => ?_)
        · have h := h.1 c6
          refine r_iconst (pc := 114) (v := 0) E dX9_rent_114 (by decide) ?_
          refine r_iadd (pc := 115) E dX9_rent_115 ?_
          refine r_topi (fun x8 ex8 => ?_)
          have h := h x8 ex8
          refine r_istore_n (pc := 116) (lv' := [some (.ref (xa X 63)), none, some (.int v2), some (.int x8), some (.int v4), some (.int v5), some (.int v2)]) E dX9_rent_116 rfl rfl rfl rfl ?_
          refine r_aload_n (pc := 117) E dX9_rent_117 rfl rfl ?_
          refine r_get (pc := 118) (j := 32) (v := .ref (xa X 80)) E ok_63 kc_9 rfl q_808 rfl dX9_rent_118 ?_
          refine r_iload (pc := 121) E dX9_rent_121 rfl ?_
          refine r_iald (pc := 123) (n := 5) E ok_80 rfl h.1 dX9_rent_123 ?_
          have h := h.2
          refine r_topi (fun x9 ex9 => ?_)
          have h := h x9 ex9
          refine r_istore (pc := 124) (lv' := [some (.ref (xa X 63)), none, some (.int v2), some (.int x8), some (.int x9), some (.int v5), some (.int v2)]) E dX9_rent_124 rfl rfl rfl ?_
          obtain ⟨x10, ex10⟩ : ∃ z : Int32, z = v5 + 1 := ⟨_, rfl⟩
          have h := h x10 ex10
          refine r_iinc (pc := 126) (v := 1) (lv' := [some (.ref (xa X 63)), none, some (.int v2), some (.int x8), some (.int x9), some (.int x10), some (.int v2)]) E dX9_rent_126 rfl (by decide) rfl rfl (by rw [ex10]; rfl) ?_
          refine r_goto (pc := 129) (tgt := 54) E dX9_rent_129 (by decide) ?_
          exact r_forget (le_s (le_n (le_s (le_s (le_s (le_s (le_n le_0))))))) (ih _ _ _ _ h)
        · have h := h.2 c6
          refine r_iload (pc := 95) E dX9_rent_95 rfl ?_
          refine r_iload (pc := 97) E dX9_rent_97 rfl ?_
          refine r_isub (pc := 99) E dX9_rent_99 ?_
          refine r_aload_n (pc := 100) E dX9_rent_100 rfl rfl ?_
          refine r_get (pc := 101) (j := 33) (v := .ref (xa X 81)) E ok_63 kc_9 rfl q_809 rfl dX9_rent_101 ?_
          refine r_iload (pc := 104) E dX9_rent_104 rfl ?_
          refine r_iald (pc := 106) (n := 5) E ok_81 rfl h.1 dX9_rent_106 ?_
          have h := h.2
          refine r_imul (pc := 107) E dX9_rent_107 ?_
          refine r_bipush (pc := 108) (v := 100) E dX9_rent_108 (by decide) ?_
          refine r_idiv (pc := 110) E dX9_rent_110 (by decide) ?_
          refine r_goto (pc := 111) (tgt := 115) E dX9_rent_111 (by decide) ?_
          refine r_iadd (pc := 115) E dX9_rent_115 ?_
          refine r_topi (fun x11 ex11 => ?_)
          have h := h x11 ex11
          refine r_istore_n (pc := 116) (lv' := [some (.ref (xa X 63)), none, some (.int v2), some (.int x11), some (.int v4), some (.int v5), some (.int v2)]) E dX9_rent_116 rfl rfl rfl rfl ?_
          refine r_aload_n (pc := 117) E dX9_rent_117 rfl rfl ?_
          refine r_get (pc := 118) (j := 32) (v := .ref (xa X 80)) E ok_63 kc_9 rfl q_808 rfl dX9_rent_118 ?_
          refine r_iload (pc := 121) E dX9_rent_121 rfl ?_
          refine r_iald (pc := 123) (n := 5) E ok_80 rfl h.1 dX9_rent_123 ?_
          have h := h.2
          refine r_topi (fun x12 ex12 => ?_)
          have h := h x12 ex12
          refine r_istore (pc := 124) (lv' := [some (.ref (xa X 63)), none, some (.int v2), some (.int x11), some (.int x12), some (.int v5), some (.int v2)]) E dX9_rent_124 rfl rfl rfl ?_
          obtain ⟨x13, ex13⟩ : ∃ z : Int32, z = v5 + 1 := ⟨_, rfl⟩
          have h := h x13 ex13
          refine r_iinc (pc := 126) (v := 1) (lv' := [some (.ref (xa X 63)), none, some (.int v2), some (.int x11), some (.int x12), some (.int x13), some (.int v2)]) E dX9_rent_126 rfl (by decide) rfl rfl (by rw [ex13]; rfl) ?_
          refine r_goto (pc := 129) (tgt := 54) E dX9_rent_129 (by decide) ?_
          exact r_forget (le_s (le_n (le_s (le_s (le_s (le_s (le_n le_0))))))) (ih _ _ _ _ h)

def w_X9_rent_J45 (Q : Int32 → ST → Prop) (s0 : ST) (t0 : Int32) : Prop := ∃ n1 : Nat, w_X9_rent_L54 t0 (fun (s2 : ST) (x14 : Int32) => Q x14 s2) Q n1 s0 0 0 0
set_option maxRecDepth 100000 in
set_option maxHeartbeats 4000000 in
theorem t_X9_rent_J45 {p : Program} {l : Launch} {e : Env} {s : State} {m : MethodId} {args : Array Value} {below : List Frame} {meth : Method} {c : Code} {X : XT} (E : Ev p rm_X9_rent s m args meth c X (xA X) 7 0 0 cX9_rent RX9) (hr : meth.sig.returnType = (some .int)) {Q : Int32 → ST → Prop} (s0 : ST) (t0 : Int32) (h : w_X9_rent_J45 Q s0 t0) : G p l e rm_X9_rent s m args below meth c X (xA X) 7 0 0 (MQ below (va_Qi Q (Bw X) (xA X)) args s 0 0 (xA X)) s0 45 [some (.ref (xa X 63)), none, none, none, none, none, none] [.int t0] := by
  refine r_istore_n (pc := 45) (lv' := [some (.ref (xa X 63)), none, some (.int t0), none, none, none, none]) E dX9_rent_45 rfl rfl rfl rfl ?_
  refine r_iconst (pc := 46) (v := 0) E dX9_rent_46 (by decide) ?_
  refine r_istore_n (pc := 47) (lv' := [some (.ref (xa X 63)), none, some (.int t0), some (.int 0), none, none, none]) E dX9_rent_47 rfl rfl rfl rfl ?_
  refine r_iconst (pc := 48) (v := 0) E dX9_rent_48 (by decide) ?_
  refine r_istore (pc := 49) (lv' := [some (.ref (xa X 63)), none, some (.int t0), some (.int 0), some (.int 0), none, none]) E dX9_rent_49 rfl rfl rfl ?_
  refine r_iconst (pc := 51) (v := 0) E dX9_rent_51 (by decide) ?_
  refine r_istore (pc := 52) (lv' := [some (.ref (xa X 63)), none, some (.int t0), some (.int 0), some (.int 0), some (.int 0), none]) E dX9_rent_52 rfl rfl rfl ?_
  obtain ⟨n1, h⟩ := h
  refine r_forget (le_s (le_n (le_s (le_s (le_s (le_s (le_n le_0))))))) (t_X9_rent_L54 E hr ?_ n1 _ _ _ _ h)
  intro s2 x14 h
  refine r_iload_n (pc := 132) E dX9_rent_132 rfl rfl ?_
  exact r_iret (pc := 133) E hr dX9_rent_133 h

def w_X9_rent (s0 : ST) (a1 : Int32) (Q : Int32 → ST → Prop) : Prop := ∀ s1 : ST, s1 = up s0 63 0 0 → (((a1 = (-1000000) → (((¬ a1 = (-1000000) → (w_X9_rent_J45 Q s1 a1)) ∧ (a1 = (-1000000) → (w_X9_rent_J45 Q s1 ((s1 63 8) - (s1 63 9))))))) ∧ (¬ (a1 = (-1000000)) → (w_X9_in s1 ((a1 : Int32).toInt64) 0 1000000 (fun r1 s3 => ((¬ r1 = 0 → (((¬ a1 = (-1000000) → (w_X9_rent_J45 Q s3 a1)) ∧ (a1 = (-1000000) → (w_X9_rent_J45 Q s3 ((s3 63 8) - (s3 63 9))))))) ∧ (r1 = 0 → (Q (-1000001) s3))))))))
set_option maxRecDepth 100000 in
set_option maxHeartbeats 4000000 in
theorem c_X9_rent {l : Launch} (X : XT) (s0 : ST) (a1 : Int32) (Q : Int32 → ST → Prop) (h : w_X9_rent s0 a1 Q) : MetI l yX9_rent (wS yX9_rent cX9_rent 7 (some .int)) rm_X9_rent X s0 [.ref (xa X 63), .int a1] Q := by
  refine metG (own := RX9) (k := 5) (lv0 := [some (.ref (xa X 63)), some (.int a1), none, none, none, none, none]) (by decide) rfl rfl rfl ?_
  intro p e s m args below meth c E hr
  refine r_aload_n (pc := 0) E dX9_rent_0 rfl rfl ?_
  refine r_iconst (pc := 1) (v := 0) E dX9_rent_1 (by decide) ?_
  refine r_put (pc := 2) (j := 0) E ok_63 kc_9 rfl q_776 rfl rfl rfl dX9_rent_2 (fun s1 es1 => ?_)
  have h := h s1 es1
  refine r_iload_n (pc := 5) E dX9_rent_5 rfl rfl ?_
  refine r_ldc (pc := 6) (v := (-1000000)) E q_957 dX9_rent_6 ?_
  refine r_icmp_eq (pc := 8) (tgt := 26) E dX9_rent_8 (by decide) (fun c1 => ?_) (fun c1 => ?_)
  · have h := h.1 c1
    refine r_iload_n (pc := 26) E dX9_rent_26 rfl rfl ?_
    refine r_ldc (pc := 27) (v := (-1000000)) E q_957 dX9_rent_27 ?_
    refine r_icmp_ne (pc := 29) (tgt := 44) E dX9_rent_29 (by decide) (fun c2 => ?_) (fun c2 => ?_)
    · have h := h.1 c2
      refine r_iload_n (pc := 44) E dX9_rent_44 rfl rfl ?_
      exact r_forget (le_s (le_n (le_n (le_n (le_n (le_n (le_n le_0))))))) (t_X9_rent_J45 E hr _ _ h)
    · have h := h.2 c2
      refine r_aload_n (pc := 32) E dX9_rent_32 rfl rfl ?_
      refine r_get (pc := 33) (j := 8) E ok_63 kc_9 rfl q_784 (svI rfl) dX9_rent_33 ?_
      refine r_aload_n (pc := 36) E dX9_rent_36 rfl rfl ?_
      refine r_get (pc := 37) (j := 9) E ok_63 kc_9 rfl q_785 (svI rfl) dX9_rent_37 ?_
      refine r_isub (pc := 40) E dX9_rent_40 ?_
      refine r_goto (pc := 41) (tgt := 45) E dX9_rent_41 (by decide) ?_
      exact r_forget (le_s (le_n (le_n (le_n (le_n (le_n (le_n le_0))))))) (t_X9_rent_J45 E hr _ _ h)
  · have h := h.2 c1
    refine r_iload_n (pc := 11) E dX9_rent_11 rfl rfl ?_
    refine r_i2l (pc := 12) E dX9_rent_12 ?_
    refine r_lconst (pc := 13) (v := 0) E dX9_rent_13 rfl ?_
    refine r_ldc2 (pc := 14) (v := 1000000) E q_1075 dX9_rent_14 ?_
    refine afterI (pc := 17) E (fun H locs ls hP hS hl => runS (As := [.long ((a1 : Int32).toInt64), .long 0, .long 1000000]) (rest := []) E (c_X9_in X _ _ _ _ _  h) cs_X9_in q_947 rfl rfl rfl rfl dX9_rent_17 hP hS hl) (fun r1 s3 h => ?_)
    refine r_if_ne (pc := 20) (tgt := 26) E dX9_rent_20 (by decide) (fun c7 => ?_) (fun c7 => ?_)
    · have h := h.1 c7
      refine r_iload_n (pc := 26) E dX9_rent_26 rfl rfl ?_
      refine r_ldc (pc := 27) (v := (-1000000)) E q_957 dX9_rent_27 ?_
      refine r_icmp_ne (pc := 29) (tgt := 44) E dX9_rent_29 (by decide) (fun c8 => ?_) (fun c8 => ?_)
      · have h := h.1 c8
        refine r_iload_n (pc := 44) E dX9_rent_44 rfl rfl ?_
        exact r_forget (le_s (le_n (le_n (le_n (le_n (le_n (le_n le_0))))))) (t_X9_rent_J45 E hr _ _ h)
      · have h := h.2 c8
        refine r_aload_n (pc := 32) E dX9_rent_32 rfl rfl ?_
        refine r_get (pc := 33) (j := 8) E ok_63 kc_9 rfl q_784 (svI rfl) dX9_rent_33 ?_
        refine r_aload_n (pc := 36) E dX9_rent_36 rfl rfl ?_
        refine r_get (pc := 37) (j := 9) E ok_63 kc_9 rfl q_785 (svI rfl) dX9_rent_37 ?_
        refine r_isub (pc := 40) E dX9_rent_40 ?_
        refine r_goto (pc := 41) (tgt := 45) E dX9_rent_41 (by decide) ?_
        exact r_forget (le_s (le_n (le_n (le_n (le_n (le_n (le_n le_0))))))) (t_X9_rent_J45 E hr _ _ h)
    · have h := h.2 c7
      refine r_ldc (pc := 23) (v := (-1000001)) E q_951 dX9_rent_23 ?_
      exact r_iret (pc := 25) E hr dX9_rent_25 h

/-! ChairFrontModel.unpaid -/
def rm_X9_unpaid : Room := { frames := 2, cells := 0, slots := 0, locals := 46 }
theorem ci_X9_unpaid : CI yX9_unpaid RX9 cX9_unpaid 4 (some .int) 3 := ⟨q_1077, q_1078, q_65, q_1079, by decide +kernel⟩
def w_X9_unpaid (s0 : ST) (a1 : Int32) (a2 : Int32) (a3 : Int32) (Q : Int32 → ST → Prop) : Prop := ∀ s1 : ST, s1 = up s0 63 0 0 → (w_X9_isStretch s1 a1 (fun r1 s2 => ((r1 = 0 → (Q (-1000001) s2)) ∧ (¬ (r1 = 0) → (w_X9_in s2 ((a2 : Int32).toInt64) 0 500 (fun r2 s3 => ((r2 = 0 → (Q (-1000001) s3)) ∧ (¬ (r2 = 0) → (w_X9_in s3 ((a3 : Int32).toInt64) 0 500 (fun r3 s4 => ((¬ r3 = 0 → (vp_in a1 10 ∧ (∀ s5 : ST, s5 = up s4 69 a1.toNatClampNeg a2 → (vp_in a1 10 ∧ (∀ s6 : ST, s6 = up s5 70 a1.toNatClampNeg a3 → (Q 1 s6)))))) ∧ (r3 = 0 → (Q (-1000001) s4)))))))))))))
set_option maxRecDepth 100000 in
set_option maxHeartbeats 4000000 in
theorem c_X9_unpaid {l : Launch} (X : XT) (s0 : ST) (a1 : Int32) (a2 : Int32) (a3 : Int32) (Q : Int32 → ST → Prop) (h : w_X9_unpaid s0 a1 a2 a3 Q) : MetI l yX9_unpaid (wS yX9_unpaid cX9_unpaid 4 (some .int)) rm_X9_unpaid X s0 [.ref (xa X 63), .int a1, .int a2, .int a3] Q := by
  refine metG (own := RX9) (k := 0) (lv0 := [some (.ref (xa X 63)), some (.int a1), some (.int a2), some (.int a3)]) (by decide) rfl rfl rfl ?_
  intro p e s m args below meth c E hr
  refine r_aload_n (pc := 0) E dX9_unpaid_0 rfl rfl ?_
  refine r_iconst (pc := 1) (v := 0) E dX9_unpaid_1 (by decide) ?_
  refine r_put (pc := 2) (j := 0) E ok_63 kc_9 rfl q_776 rfl rfl rfl dX9_unpaid_2 (fun s1 es1 => ?_)
  have h := h s1 es1
  refine r_aload_n (pc := 5) E dX9_unpaid_5 rfl rfl ?_
  refine r_iload_n (pc := 6) E dX9_unpaid_6 rfl rfl ?_
  refine afterI (pc := 7) E (fun H locs ls hP hS hl => runV (As := [.int a1]) (rest := []) E (c_X9_isStretch X _ _ _  h) ok_63 kc_9.1 ci_X9_isStretch q_958 rfl rfl rfl rfl dX9_unpaid_7 hP hS hl) (fun r1 s2 h => ?_)
  refine r_if_eq (pc := 10) (tgt := 37) E dX9_unpaid_10 (by decide) (fun c1 => ?_) (fun c1 => ?_)
  · have h := h.1 c1
    refine r_ldc (pc := 37) (v := (-1000001)) E q_951 dX9_unpaid_37 ?_
    exact r_iret (pc := 39) E hr dX9_unpaid_39 h
  · have h := h.2 c1
    refine r_iload_n (pc := 13) E dX9_unpaid_13 rfl rfl ?_
    refine r_i2l (pc := 14) E dX9_unpaid_14 ?_
    refine r_lconst (pc := 15) (v := 0) E dX9_unpaid_15 rfl ?_
    refine r_ldc2 (pc := 16) (v := 500) E q_946 dX9_unpaid_16 ?_
    refine afterI (pc := 19) E (fun H locs ls hP hS hl => runS (As := [.long ((a2 : Int32).toInt64), .long 0, .long 500]) (rest := []) E (c_X9_in X _ _ _ _ _  h) cs_X9_in q_947 rfl rfl rfl rfl dX9_unpaid_19 hP hS hl) (fun r2 s3 h => ?_)
    refine r_if_eq (pc := 22) (tgt := 37) E dX9_unpaid_22 (by decide) (fun c2 => ?_) (fun c2 => ?_)
    · have h := h.1 c2
      refine r_ldc (pc := 37) (v := (-1000001)) E q_951 dX9_unpaid_37 ?_
      exact r_iret (pc := 39) E hr dX9_unpaid_39 h
    · have h := h.2 c2
      refine r_iload_n (pc := 25) E dX9_unpaid_25 rfl rfl ?_
      refine r_i2l (pc := 26) E dX9_unpaid_26 ?_
      refine r_lconst (pc := 27) (v := 0) E dX9_unpaid_27 rfl ?_
      refine r_ldc2 (pc := 28) (v := 500) E q_946 dX9_unpaid_28 ?_
      refine afterI (pc := 31) E (fun H locs ls hP hS hl => runS (As := [.long ((a3 : Int32).toInt64), .long 0, .long 500]) (rest := []) E (c_X9_in X _ _ _ _ _  h) cs_X9_in q_947 rfl rfl rfl rfl dX9_unpaid_31 hP hS hl) (fun r3 s4 h => ?_)
      refine r_if_ne (pc := 34) (tgt := 40) E dX9_unpaid_34 (by decide) (fun c3 => ?_) (fun c3 => ?_)
      · have h := h.1 c3
        refine r_aload_n (pc := 40) E dX9_unpaid_40 rfl rfl ?_
        refine r_get (pc := 41) (j := 16) (v := .ref (xa X 69)) E ok_63 kc_9 rfl q_792 rfl dX9_unpaid_41 ?_
        refine r_iload_n (pc := 44) E dX9_unpaid_44 rfl rfl ?_
        refine r_iload_n (pc := 45) E dX9_unpaid_45 rfl rfl ?_
        refine r_iast (pc := 46) (n := 10) E ok_69 rfl h.1 dX9_unpaid_46 (fun s5 es5 => ?_)
        have h := h.2 s5 es5
        refine r_aload_n (pc := 47) E dX9_unpaid_47 rfl rfl ?_
        refine r_get (pc := 48) (j := 17) (v := .ref (xa X 70)) E ok_63 kc_9 rfl q_793 rfl dX9_unpaid_48 ?_
        refine r_iload_n (pc := 51) E dX9_unpaid_51 rfl rfl ?_
        refine r_iload_n (pc := 52) E dX9_unpaid_52 rfl rfl ?_
        refine r_iast (pc := 53) (n := 10) E ok_70 rfl h.1 dX9_unpaid_53 (fun s6 es6 => ?_)
        have h := h.2 s6 es6
        refine r_iconst (pc := 54) (v := 1) E dX9_unpaid_54 (by decide) ?_
        exact r_iret (pc := 55) E hr dX9_unpaid_55 h
      · have h := h.2 c3
        refine r_ldc (pc := 37) (v := (-1000001)) E q_951 dX9_unpaid_37 ?_
        exact r_iret (pc := 39) E hr dX9_unpaid_39 h

/-! ChairFrontModel.next -/
def rm_X9_next : Room := { frames := 0, cells := 0, slots := 0, locals := 0 }
theorem ci_X9_next : CI yX9_next RX9 cX9_next 7 (some .boolean) 1 := ⟨q_1086, q_48, q_65, q_1087, by decide +kernel⟩
def w_X9_next_L4 (v1 : Int32) (K : ST → Int32 → Prop) (Q : Int32 → ST → Prop) : Nat → ST → Int32 → Prop
  | 0, _, _ => False
  | n + 1, s0, v2 => ((v2 < 0 → (K s0 v2)) ∧ (¬ (v2 < 0) → (vp_in v2 7 ∧ (vp_in (v2 + 1) 7 ∧ ((((s0 87 v2.toNatClampNeg) ≤ (s0 87 (v2 + 1).toNatClampNeg) → (K s0 v2)) ∧ (¬ ((s0 87 v2.toNatClampNeg) ≤ (s0 87 (v2 + 1).toNatClampNeg)) → (∀ x2 : Int32, x2 = v2 + (-1) → (w_X9_next_L4 v1 K Q n s0 x2)))))))))
set_option maxRecDepth 100000 in
set_option maxHeartbeats 4000000 in
theorem t_X9_next_L4 {p : Program} {l : Launch} {e : Env} {s : State} {m : MethodId} {args : Array Value} {below : List Frame} {meth : Method} {c : Code} {X : XT} (E : Ev p rm_X9_next s m args meth c X (xA X) 7 0 0 cX9_next RX9) (hr : meth.sig.returnType = (some .boolean)) {v1 : Int32} {K : ST → Int32 → Prop} {Q : Int32 → ST → Prop} (hK : ∀ (s0 : ST) (v2 : Int32), K s0 v2 → G p l e rm_X9_next s m args below meth c X (xA X) 7 0 0 (MQ below (va_Qi Q (Bw X) (xA X)) args s 0 0 (xA X)) s0 31 [some (.ref (xa X 63)), some (.int v1), some (.int v2), none, none, none, none] []) : ∀ (n : Nat) (s0 : ST) (v2 : Int32), w_X9_next_L4 v1 K Q n s0 v2 → G p l e rm_X9_next s m args below meth c X (xA X) 7 0 0 (MQ below (va_Qi Q (Bw X) (xA X)) args s 0 0 (xA X)) s0 4 [some (.ref (xa X 63)), some (.int v1), some (.int v2), none, none, none, none] [] := by
  intro n
  induction n with
  | zero => intro s0 v2 h; exact h.elim
  | succ n ih =>
    intro s0 v2 h
    refine r_iload_n (pc := 4) E dX9_next_4 rfl rfl ?_
    refine r_if_lt (pc := 5) (tgt := 31) E dX9_next_5 (by decide) (fun c1 => ?_) (fun c1 => ?_)
    · have h := h.1 c1
      exact r_forget (le_s (le_s (le_s (le_n (le_n (le_n (le_n le_0))))))) (hK _ _ h)
    · have h := h.2 c1
      refine r_aload_n (pc := 8) E dX9_next_8 rfl rfl ?_
      refine r_get (pc := 9) (j := 51) (v := .ref (xa X 87)) E ok_63 kc_9 rfl q_827 rfl dX9_next_9 ?_
      refine r_iload_n (pc := 12) E dX9_next_12 rfl rfl ?_
      refine r_iald (pc := 13) (n := 7) E ok_87 rfl h.1 dX9_next_13 ?_
      have h := h.2
      refine r_aload_n (pc := 14) E dX9_next_14 rfl rfl ?_
      refine r_get (pc := 15) (j := 51) (v := .ref (xa X 87)) E ok_63 kc_9 rfl q_827 rfl dX9_next_15 ?_
      refine r_iload_n (pc := 18) E dX9_next_18 rfl rfl ?_
      refine r_iconst (pc := 19) (v := 1) E dX9_next_19 (by decide) ?_
      refine r_iadd (pc := 20) E dX9_next_20 ?_
      refine r_iald (pc := 21) (n := 7) E ok_87 rfl h.1 dX9_next_21 ?_
      have h := h.2
      refine r_icmp_le (pc := 22) (tgt := 31) E dX9_next_22 (by decide) (fun c2 => ?_) (fun c2 => ?_)
      · have h := h.1 c2
        exact r_forget (le_s (le_s (le_s (le_n (le_n (le_n (le_n le_0))))))) (hK _ _ h)
      · have h := h.2 c2
        obtain ⟨x2, ex2⟩ : ∃ z : Int32, z = v2 + (-1) := ⟨_, rfl⟩
        have h := h x2 ex2
        refine r_iinc (pc := 25) (v := (-1)) (lv' := [some (.ref (xa X 63)), some (.int v1), some (.int x2), none, none, none, none]) E dX9_next_25 rfl (by decide) rfl rfl (by rw [ex2]; rfl) ?_
        refine r_goto (pc := 28) (tgt := 4) E dX9_next_28 (by decide) ?_
        exact r_forget (le_s (le_s (le_s (le_n (le_n (le_n (le_n le_0))))))) (ih _ _ h)

def w_X9_next_L41 (v1 : Int32) (v2 : Int32) (K : ST → Int32 → Prop) (Q : Int32 → ST → Prop) : Nat → ST → Int32 → Prop
  | 0, _, _ => False
  | n + 1, s0, v3 => vp_in v3 7 ∧ (vp_in v2 7 ∧ ((((s0 87 v2.toNatClampNeg) ≤ (s0 87 v3.toNatClampNeg) → (K s0 v3)) ∧ (¬ ((s0 87 v2.toNatClampNeg) ≤ (s0 87 v3.toNatClampNeg)) → (∀ x5 : Int32, x5 = v3 + (-1) → (w_X9_next_L41 v1 v2 K Q n s0 x5))))))
set_option maxRecDepth 100000 in
set_option maxHeartbeats 4000000 in
theorem t_X9_next_L41 {p : Program} {l : Launch} {e : Env} {s : State} {m : MethodId} {args : Array Value} {below : List Frame} {meth : Method} {c : Code} {X : XT} (E : Ev p rm_X9_next s m args meth c X (xA X) 7 0 0 cX9_next RX9) (hr : meth.sig.returnType = (some .boolean)) {v1 : Int32} {v2 : Int32} {K : ST → Int32 → Prop} {Q : Int32 → ST → Prop} (hK : ∀ (s0 : ST) (v3 : Int32), K s0 v3 → G p l e rm_X9_next s m args below meth c X (xA X) 7 0 0 (MQ below (va_Qi Q (Bw X) (xA X)) args s 0 0 (xA X)) s0 62 [some (.ref (xa X 63)), some (.int v1), some (.int v2), some (.int v3), none, none, none] []) : ∀ (n : Nat) (s0 : ST) (v3 : Int32), w_X9_next_L41 v1 v2 K Q n s0 v3 → G p l e rm_X9_next s m args below meth c X (xA X) 7 0 0 (MQ below (va_Qi Q (Bw X) (xA X)) args s 0 0 (xA X)) s0 41 [some (.ref (xa X 63)), some (.int v1), some (.int v2), some (.int v3), none, none, none] [] := by
  intro n
  induction n with
  | zero => intro s0 v3 h; exact h.elim
  | succ n ih =>
    intro s0 v3 h
    refine r_aload_n (pc := 41) E dX9_next_41 rfl rfl ?_
    refine r_get (pc := 42) (j := 51) (v := .ref (xa X 87)) E ok_63 kc_9 rfl q_827 rfl dX9_next_42 ?_
    refine r_iload_n (pc := 45) E dX9_next_45 rfl rfl ?_
    refine r_iald (pc := 46) (n := 7) E ok_87 rfl h.1 dX9_next_46 ?_
    have h := h.2
    refine r_aload_n (pc := 47) E dX9_next_47 rfl rfl ?_
    refine r_get (pc := 48) (j := 51) (v := .ref (xa X 87)) E ok_63 kc_9 rfl q_827 rfl dX9_next_48 ?_
    refine r_iload_n (pc := 51) E dX9_next_51 rfl rfl ?_
    refine r_iald (pc := 52) (n := 7) E ok_87 rfl h.1 dX9_next_52 ?_
    have h := h.2
    refine r_icmp_ge (pc := 53) (tgt := 62) E dX9_next_53 (by decide) (fun c4 => ?_) (fun c4 => ?_)
    · have h := h.1 c4
      exact r_forget (le_s (le_s (le_s (le_s (le_n (le_n (le_n le_0))))))) (hK _ _ h)
    · have h := h.2 c4
      obtain ⟨x5, ex5⟩ : ∃ z : Int32, z = v3 + (-1) := ⟨_, rfl⟩
      have h := h x5 ex5
      refine r_iinc (pc := 56) (v := (-1)) (lv' := [some (.ref (xa X 63)), some (.int v1), some (.int v2), some (.int x5), none, none, none]) E dX9_next_56 rfl (by decide) rfl rfl (by rw [ex5]; rfl) ?_
      refine r_goto (pc := 59) (tgt := 41) E dX9_next_59 (by decide) ?_
      exact r_forget (le_s (le_s (le_s (le_s (le_n (le_n (le_n le_0))))))) (ih _ _ h)

def w_X9_next_L100 (K : ST → Prop) (Q : Int32 → ST → Prop) : Nat → ST → Int32 → Int32 → Prop
  | 0, _, _, _ => False
  | n + 1, s0, v5, v6 => ((v6 ≤ v5 → (K s0)) ∧ (¬ (v6 ≤ v5) → (vp_in v5 7 ∧ (∀ x10 : Int32, x10 = (s0 87 v5.toNatClampNeg) → (vp_in v6 7 ∧ (vp_in v5 7 ∧ (∀ s5 : ST, s5 = up s0 87 v5.toNatClampNeg (s0 87 v6.toNatClampNeg) → (vp_in v6 7 ∧ (∀ s6 : ST, s6 = up s5 87 v6.toNatClampNeg x10 → (∀ x11 : Int32, x11 = v5 + 1 → (∀ x12 : Int32, x12 = v6 + (-1) → (w_X9_next_L100 K Q n s6 x11 x12))))))))))))
set_option maxRecDepth 100000 in
set_option maxHeartbeats 4000000 in
theorem t_X9_next_L100 {p : Program} {l : Launch} {e : Env} {s : State} {m : MethodId} {args : Array Value} {below : List Frame} {meth : Method} {c : Code} {X : XT} (E : Ev p rm_X9_next s m args meth c X (xA X) 7 0 0 cX9_next RX9) (hr : meth.sig.returnType = (some .boolean)) {K : ST → Prop} {Q : Int32 → ST → Prop} (hK : ∀ (s0 : ST), K s0 → G p l e rm_X9_next s m args below meth c X (xA X) 7 0 0 (MQ below (va_Qi Q (Bw X) (xA X)) args s 0 0 (xA X)) s0 148 [none, none, none, none, none, none, none] []) : ∀ (n : Nat) (s0 : ST) (v5 : Int32) (v6 : Int32), w_X9_next_L100 K Q n s0 v5 v6 → G p l e rm_X9_next s m args below meth c X (xA X) 7 0 0 (MQ below (va_Qi Q (Bw X) (xA X)) args s 0 0 (xA X)) s0 100 [some (.ref (xa X 63)), none, none, none, none, some (.int v5), some (.int v6)] [] := by
  intro n
  induction n with
  | zero => intro s0 v5 v6 h; exact h.elim
  | succ n ih =>
    intro s0 v5 v6 h
    refine r_iload (pc := 100) E dX9_next_100 rfl ?_
    refine r_iload (pc := 102) E dX9_next_102 rfl ?_
    refine r_icmp_ge (pc := 104) (tgt := 148) E dX9_next_104 (by decide) (fun c5 => ?_) (fun c5 => ?_)
    · have h := h.1 c5
      exact r_forget (le_n (le_n (le_n (le_n (le_n (le_n (le_n le_0))))))) (hK _  h)
    · have h := h.2 c5
      refine r_aload_n (pc := 107) E dX9_next_107 rfl rfl ?_
      refine r_get (pc := 108) (j := 51) (v := .ref (xa X 87)) E ok_63 kc_9 rfl q_827 rfl dX9_next_108 ?_
      refine r_iload (pc := 111) E dX9_next_111 rfl ?_
      refine r_iald (pc := 113) (n := 7) E ok_87 rfl h.1 dX9_next_113 ?_
      have h := h.2
      refine r_topi (fun x10 ex10 => ?_)
      have h := h x10 ex10
      refine r_istore (pc := 114) (lv' := [some (.ref (xa X 63)), none, none, none, some (.int x10), some (.int v5), some (.int v6)]) E dX9_next_114 rfl rfl rfl ?_
      refine r_aload_n (pc := 116) E dX9_next_116 rfl rfl ?_
      refine r_get (pc := 117) (j := 51) (v := .ref (xa X 87)) E ok_63 kc_9 rfl q_827 rfl dX9_next_117 ?_
      refine r_iload (pc := 120) E dX9_next_120 rfl ?_
      refine r_aload_n (pc := 122) E dX9_next_122 rfl rfl ?_
      refine r_get (pc := 123) (j := 51) (v := .ref (xa X 87)) E ok_63 kc_9 rfl q_827 rfl dX9_next_123 ?_
      refine r_iload (pc := 126) E dX9_next_126 rfl ?_
      refine r_iald (pc := 128) (n := 7) E ok_87 rfl h.1 dX9_next_128 ?_
      have h := h.2
      refine r_iast (pc := 129) (n := 7) E ok_87 rfl h.1 dX9_next_129 (fun s5 es5 => ?_)
      have h := h.2 s5 es5
      refine r_aload_n (pc := 130) E dX9_next_130 rfl rfl ?_
      refine r_get (pc := 131) (j := 51) (v := .ref (xa X 87)) E ok_63 kc_9 rfl q_827 rfl dX9_next_131 ?_
      refine r_iload (pc := 134) E dX9_next_134 rfl ?_
      refine r_iload (pc := 136) E dX9_next_136 rfl ?_
      refine r_iast (pc := 138) (n := 7) E ok_87 rfl h.1 dX9_next_138 (fun s6 es6 => ?_)
      have h := h.2 s6 es6
      obtain ⟨x11, ex11⟩ : ∃ z : Int32, z = v5 + 1 := ⟨_, rfl⟩
      have h := h x11 ex11
      refine r_iinc (pc := 139) (v := 1) (lv' := [some (.ref (xa X 63)), none, none, none, some (.int x10), some (.int x11), some (.int v6)]) E dX9_next_139 rfl (by decide) rfl rfl (by rw [ex11]; rfl) ?_
      obtain ⟨x12, ex12⟩ : ∃ z : Int32, z = v6 + (-1) := ⟨_, rfl⟩
      have h := h x12 ex12
      refine r_iinc (pc := 142) (v := (-1)) (lv' := [some (.ref (xa X 63)), none, none, none, some (.int x10), some (.int x11), some (.int x12)]) E dX9_next_142 rfl (by decide) rfl rfl (by rw [ex12]; rfl) ?_
      refine r_goto (pc := 145) (tgt := 100) E dX9_next_145 (by decide) ?_
      exact r_forget (le_s (le_n (le_n (le_n (le_n (le_s (le_s le_0))))))) (ih _ _ _ h)

def w_X9_next (s0 : ST) (a1 : Int32) (Q : Int32 → ST → Prop) : Prop := ∀ x1 : Int32, x1 = (a1 - 2) → (∃ n1 : Nat, w_X9_next_L4 a1 (fun (s1 : ST) (x3 : Int32) => ((0 ≤ x3 → (∀ x4 : Int32, x4 = (a1 - 1) → (∃ n2 : Nat, w_X9_next_L41 a1 x3 (fun (s2 : ST) (x6 : Int32) => vp_in x3 7 ∧ (∀ x7 : Int32, x7 = (s2 87 x3.toNatClampNeg) → (vp_in x6 7 ∧ (vp_in x3 7 ∧ (∀ s3 : ST, s3 = up s2 87 x3.toNatClampNeg (s2 87 x6.toNatClampNeg) → (vp_in x6 7 ∧ (∀ s4 : ST, s4 = up s3 87 x6.toNatClampNeg x7 → (∀ x8 : Int32, x8 = (x3 + 1) → (∀ x9 : Int32, x9 = (a1 - 1) → (∃ n3 : Nat, w_X9_next_L100 (fun (s7 : ST) => Q 1 s7) Q n3 s4 x8 x9)))))))))) Q n2 s1 x4))) ∧ (¬ (0 ≤ x3) → (Q 0 s1)))) Q n1 s0 x1)
set_option maxRecDepth 100000 in
set_option maxHeartbeats 4000000 in
theorem c_X9_next {l : Launch} (X : XT) (s0 : ST) (a1 : Int32) (Q : Int32 → ST → Prop) (h : w_X9_next s0 a1 Q) : MetI l yX9_next (wS yX9_next cX9_next 7 (some .boolean)) rm_X9_next X s0 [.ref (xa X 63), .int a1] Q := by
  refine metG (own := RX9) (k := 5) (lv0 := [some (.ref (xa X 63)), some (.int a1), none, none, none, none, none]) (by decide) rfl rfl rfl ?_
  intro p e s m args below meth c E hr
  refine r_iload_n (pc := 0) E dX9_next_0 rfl rfl ?_
  refine r_iconst (pc := 1) (v := 2) E dX9_next_1 (by decide) ?_
  refine r_isub (pc := 2) E dX9_next_2 ?_
  refine r_topi (fun x1 ex1 => ?_)
  have h := h x1 ex1
  refine r_istore_n (pc := 3) (lv' := [some (.ref (xa X 63)), some (.int a1), some (.int x1), none, none, none, none]) E dX9_next_3 rfl rfl rfl rfl ?_
  obtain ⟨n1, h⟩ := h
  refine r_forget (le_s (le_s (le_s (le_n (le_n (le_n (le_n le_0))))))) (t_X9_next_L4 E hr ?_ n1 _ _ h)
  intro s1 x3 h
  refine r_iload_n (pc := 31) E dX9_next_31 rfl rfl ?_
  refine r_if_ge (pc := 32) (tgt := 37) E dX9_next_32 (by decide) (fun c3 => ?_) (fun c3 => ?_)
  · have h := h.1 c3
    refine r_iload_n (pc := 37) E dX9_next_37 rfl rfl ?_
    refine r_iconst (pc := 38) (v := 1) E dX9_next_38 (by decide) ?_
    refine r_isub (pc := 39) E dX9_next_39 ?_
    refine r_topi (fun x4 ex4 => ?_)
    have h := h x4 ex4
    refine r_istore_n (pc := 40) (lv' := [some (.ref (xa X 63)), some (.int a1), some (.int x3), some (.int x4), none, none, none]) E dX9_next_40 rfl rfl rfl rfl ?_
    obtain ⟨n2, h⟩ := h
    refine r_forget (le_s (le_s (le_s (le_s (le_n (le_n (le_n le_0))))))) (t_X9_next_L41 E hr ?_ n2 _ _ h)
    intro s2 x6 h
    refine r_aload_n (pc := 62) E dX9_next_62 rfl rfl ?_
    refine r_get (pc := 63) (j := 51) (v := .ref (xa X 87)) E ok_63 kc_9 rfl q_827 rfl dX9_next_63 ?_
    refine r_iload_n (pc := 66) E dX9_next_66 rfl rfl ?_
    refine r_iald (pc := 67) (n := 7) E ok_87 rfl h.1 dX9_next_67 ?_
    have h := h.2
    refine r_topi (fun x7 ex7 => ?_)
    have h := h x7 ex7
    refine r_istore (pc := 68) (lv' := [some (.ref (xa X 63)), some (.int a1), some (.int x3), some (.int x6), some (.int x7), none, none]) E dX9_next_68 rfl rfl rfl ?_
    refine r_aload_n (pc := 70) E dX9_next_70 rfl rfl ?_
    refine r_get (pc := 71) (j := 51) (v := .ref (xa X 87)) E ok_63 kc_9 rfl q_827 rfl dX9_next_71 ?_
    refine r_iload_n (pc := 74) E dX9_next_74 rfl rfl ?_
    refine r_aload_n (pc := 75) E dX9_next_75 rfl rfl ?_
    refine r_get (pc := 76) (j := 51) (v := .ref (xa X 87)) E ok_63 kc_9 rfl q_827 rfl dX9_next_76 ?_
    refine r_iload_n (pc := 79) E dX9_next_79 rfl rfl ?_
    refine r_iald (pc := 80) (n := 7) E ok_87 rfl h.1 dX9_next_80 ?_
    have h := h.2
    refine r_iast (pc := 81) (n := 7) E ok_87 rfl h.1 dX9_next_81 (fun s3 es3 => ?_)
    have h := h.2 s3 es3
    refine r_aload_n (pc := 82) E dX9_next_82 rfl rfl ?_
    refine r_get (pc := 83) (j := 51) (v := .ref (xa X 87)) E ok_63 kc_9 rfl q_827 rfl dX9_next_83 ?_
    refine r_iload_n (pc := 86) E dX9_next_86 rfl rfl ?_
    refine r_iload (pc := 87) E dX9_next_87 rfl ?_
    refine r_iast (pc := 89) (n := 7) E ok_87 rfl h.1 dX9_next_89 (fun s4 es4 => ?_)
    have h := h.2 s4 es4
    refine r_iload_n (pc := 90) E dX9_next_90 rfl rfl ?_
    refine r_iconst (pc := 91) (v := 1) E dX9_next_91 (by decide) ?_
    refine r_iadd (pc := 92) E dX9_next_92 ?_
    refine r_topi (fun x8 ex8 => ?_)
    have h := h x8 ex8
    refine r_istore (pc := 93) (lv' := [some (.ref (xa X 63)), some (.int a1), some (.int x3), some (.int x6), some (.int x7), some (.int x8), none]) E dX9_next_93 rfl rfl rfl ?_
    refine r_iload_n (pc := 95) E dX9_next_95 rfl rfl ?_
    refine r_iconst (pc := 96) (v := 1) E dX9_next_96 (by decide) ?_
    refine r_isub (pc := 97) E dX9_next_97 ?_
    refine r_topi (fun x9 ex9 => ?_)
    have h := h x9 ex9
    refine r_istore (pc := 98) (lv' := [some (.ref (xa X 63)), some (.int a1), some (.int x3), some (.int x6), some (.int x7), some (.int x8), some (.int x9)]) E dX9_next_98 rfl rfl rfl ?_
    obtain ⟨n3, h⟩ := h
    refine r_forget (le_s (le_n (le_n (le_n (le_n (le_s (le_s le_0))))))) (t_X9_next_L100 E hr ?_ n3 _ _ _ h)
    intro s7 h
    refine r_iconst (pc := 148) (v := 1) E dX9_next_148 (by decide) ?_
    exact r_zret (pc := 149) E hr dX9_next_149 rfl h
  · have h := h.2 c3
    refine r_iconst (pc := 35) (v := 0) E dX9_next_35 (by decide) ?_
    exact r_zret (pc := 36) E hr dX9_next_36 rfl h

/-! ChairFrontModel.walk -/
def rm_X9_walk : Room := { frames := 1, cells := 0, slots := 0, locals := 26 }
theorem ci_X9_walk : CI yX9_walk RX9 cX9_walk 9 (some .int) 2 := ⟨q_1081, q_1082, q_65, q_1083, by decide +kernel⟩
def w_X9_walk_L10 (v1 : Int32) (v2 : Int32) (K : ST → Int32 → Prop) (Q : Int32 → ST → Prop) : Nat → ST → Int32 → Int32 → Prop
  | 0, _, _, _ => False
  | n + 1, s0, v3, v4 => (((10 : Int32) ≤ v4 → (K s0 v3)) ∧ (¬ ((10 : Int32) ≤ v4) → (((¬ ((v1 >>> (v4 &&& 31)) &&& 1) = 1 → (∀ x1 : Int32, x1 = v4 + 1 → (w_X9_walk_L10 v1 v2 K Q n s0 v3 x1))) ∧ (((v1 >>> (v4 &&& 31)) &&& 1) = 1 → ((((7 : Int32) ≤ v3 → (∀ x2 : Int32, x2 = v3 + 1 → (∀ x3 : Int32, x3 = v4 + 1 → (w_X9_walk_L10 v1 v2 K Q n s0 x2 x3)))) ∧ (¬ ((7 : Int32) ≤ v3) → (vp_in v3 7 ∧ (∀ s2 : ST, s2 = up s0 87 v3.toNatClampNeg v4 → (∀ x4 : Int32, x4 = v3 + 1 → (∀ x5 : Int32, x5 = v4 + 1 → (w_X9_walk_L10 v1 v2 K Q n s2 x4 x5)))))))))))))
set_option maxRecDepth 100000 in
set_option maxHeartbeats 4000000 in
theorem t_X9_walk_L10 {p : Program} {l : Launch} {e : Env} {s : State} {m : MethodId} {args : Array Value} {below : List Frame} {meth : Method} {c : Code} {X : XT} (E : Ev p rm_X9_walk s m args meth c X (xA X) 9 0 0 cX9_walk RX9) (hr : meth.sig.returnType = (some .int)) {v1 : Int32} {v2 : Int32} {K : ST → Int32 → Prop} {Q : Int32 → ST → Prop} (hK : ∀ (s0 : ST) (v3 : Int32), K s0 v3 → G p l e rm_X9_walk s m args below meth c X (xA X) 9 0 0 (MQ below (va_Qi Q (Bw X) (xA X)) args s 0 0 (xA X)) s0 50 [some (.ref (xa X 63)), some (.int v1), some (.int v2), some (.int v3), none, none, none, none, none] []) : ∀ (n : Nat) (s0 : ST) (v3 : Int32) (v4 : Int32), w_X9_walk_L10 v1 v2 K Q n s0 v3 v4 → G p l e rm_X9_walk s m args below meth c X (xA X) 9 0 0 (MQ below (va_Qi Q (Bw X) (xA X)) args s 0 0 (xA X)) s0 10 [some (.ref (xa X 63)), some (.int v1), some (.int v2), some (.int v3), some (.int v4), none, none, none, none] [] := by
  intro n
  induction n with
  | zero => intro s0 v3 v4 h; exact h.elim
  | succ n ih =>
    intro s0 v3 v4 h
    refine r_iload (pc := 10) E dX9_walk_10 rfl ?_
    refine r_bipush (pc := 12) (v := 10) E dX9_walk_12 (by decide) ?_
    refine r_icmp_ge (pc := 14) (tgt := 50) E dX9_walk_14 (by decide) (fun c1 => ?_) (fun c1 => ?_)
    · have h := h.1 c1
      exact r_forget (le_s (le_s (le_s (le_s (le_n (le_n (le_n (le_n (le_n le_0))))))))) (hK _ _ h)
    · have h := h.2 c1
      refine r_iload_n (pc := 17) E dX9_walk_17 rfl rfl ?_
      refine r_iload (pc := 18) E dX9_walk_18 rfl ?_
      refine r_ishr (pc := 20) E dX9_walk_20 ?_
      refine r_iconst (pc := 21) (v := 1) E dX9_walk_21 (by decide) ?_
      refine r_iand (pc := 22) E dX9_walk_22 ?_
      refine r_iconst (pc := 23) (v := 1) E dX9_walk_23 (by decide) ?_
      refine r_icmp_ne (pc := 24) (tgt := 44) E dX9_walk_24 (by decide) (fun c2 => ?_) (fun c2 => ?_)
      · have h := h.1 c2
        obtain ⟨x1, ex1⟩ : ∃ z : Int32, z = v4 + 1 := ⟨_, rfl⟩
        have h := h x1 ex1
        refine r_iinc (pc := 44) (v := 1) (lv' := [some (.ref (xa X 63)), some (.int v1), some (.int v2), some (.int v3), some (.int x1), none, none, none, none]) E dX9_walk_44 rfl (by decide) rfl rfl (by rw [ex1]; rfl) ?_
        refine r_goto (pc := 47) (tgt := 10) E dX9_walk_47 (by decide) ?_
        exact r_forget (le_s (le_s (le_s (le_s (le_s (le_n (le_n (le_n (le_n le_0))))))))) (ih _ _ _ h)
      · have h := h.2 c2
        refine r_iload_n (pc := 27) E dX9_walk_27 rfl rfl ?_
        refine r_bipush (pc := 28) (v := 7) E dX9_walk_28 (by decide) ?_
        refine r_icmp_ge (pc := 30) (tgt := 41) E dX9_walk_30 (by decide) (fun c3 => ?_) (fun c3 => ?_)
        · have h := h.1 c3
          obtain ⟨x2, ex2⟩ : ∃ z : Int32, z = v3 + 1 := ⟨_, rfl⟩
          have h := h x2 ex2
          refine r_iinc (pc := 41) (v := 1) (lv' := [some (.ref (xa X 63)), some (.int v1), some (.int v2), some (.int x2), some (.int v4), none, none, none, none]) E dX9_walk_41 rfl (by decide) rfl rfl (by rw [ex2]; rfl) ?_
          obtain ⟨x3, ex3⟩ : ∃ z : Int32, z = v4 + 1 := ⟨_, rfl⟩
          have h := h x3 ex3
          refine r_iinc (pc := 44) (v := 1) (lv' := [some (.ref (xa X 63)), some (.int v1), some (.int v2), some (.int x2), some (.int x3), none, none, none, none]) E dX9_walk_44 rfl (by decide) rfl rfl (by rw [ex3]; rfl) ?_
          refine r_goto (pc := 47) (tgt := 10) E dX9_walk_47 (by decide) ?_
          exact r_forget (le_s (le_s (le_s (le_s (le_s (le_n (le_n (le_n (le_n le_0))))))))) (ih _ _ _ h)
        · have h := h.2 c3
          refine r_aload_n (pc := 33) E dX9_walk_33 rfl rfl ?_
          refine r_get (pc := 34) (j := 51) (v := .ref (xa X 87)) E ok_63 kc_9 rfl q_827 rfl dX9_walk_34 ?_
          refine r_iload_n (pc := 37) E dX9_walk_37 rfl rfl ?_
          refine r_iload (pc := 38) E dX9_walk_38 rfl ?_
          refine r_iast (pc := 40) (n := 7) E ok_87 rfl h.1 dX9_walk_40 (fun s2 es2 => ?_)
          have h := h.2 s2 es2
          obtain ⟨x4, ex4⟩ : ∃ z : Int32, z = v3 + 1 := ⟨_, rfl⟩
          have h := h x4 ex4
          refine r_iinc (pc := 41) (v := 1) (lv' := [some (.ref (xa X 63)), some (.int v1), some (.int v2), some (.int x4), some (.int v4), none, none, none, none]) E dX9_walk_41 rfl (by decide) rfl rfl (by rw [ex4]; rfl) ?_
          obtain ⟨x5, ex5⟩ : ∃ z : Int32, z = v4 + 1 := ⟨_, rfl⟩
          have h := h x5 ex5
          refine r_iinc (pc := 44) (v := 1) (lv' := [some (.ref (xa X 63)), some (.int v1), some (.int v2), some (.int x4), some (.int x5), none, none, none, none]) E dX9_walk_44 rfl (by decide) rfl rfl (by rw [ex5]; rfl) ?_
          refine r_goto (pc := 47) (tgt := 10) E dX9_walk_47 (by decide) ?_
          exact r_forget (le_s (le_s (le_s (le_s (le_s (le_n (le_n (le_n (le_n le_0))))))))) (ih _ _ _ h)

def w_X9_walk_L90 (v2 : Int32) (v3 : Int32) (v4 : Int32) (K : ST → Int32 → Prop) (Q : Int32 → ST → Prop) : Nat → ST → Int32 → Int32 → Prop
  | 0, _, _, _ => False
  | n + 1, s0, v6, v7 => ((v3 ≤ v7 → (K s0 v6)) ∧ (¬ (v3 ≤ v7) → (vp_in v7 7 ∧ (vp_in (s0 87 v7.toNatClampNeg) 10 ∧ (vp_in v7 7 ∧ (vp_in (s0 87 v7.toNatClampNeg) 10 ∧ (∀ x7 : Int32, x7 = ((s0 69 (s0 87 v7.toNatClampNeg).toNatClampNeg) - (v7 * (s0 70 (s0 87 v7.toNatClampNeg).toNatClampNeg))) → (((x7 ≤ 0 → (∀ x8 : Int32, x8 = (v6 + 0) → (∀ x9 : Int32, x9 = v7 + 1 → (w_X9_walk_L90 v2 v3 v4 K Q n s0 x8 x9)))) ∧ (¬ (x7 ≤ 0) → (∀ x10 : Int32, x10 = (v6 + x7) → (∀ x11 : Int32, x11 = v7 + 1 → (w_X9_walk_L90 v2 v3 v4 K Q n s0 x10 x11)))))))))))))
set_option maxRecDepth 100000 in
set_option maxHeartbeats 4000000 in
theorem t_X9_walk_L90 {p : Program} {l : Launch} {e : Env} {s : State} {m : MethodId} {args : Array Value} {below : List Frame} {meth : Method} {c : Code} {X : XT} (E : Ev p rm_X9_walk s m args meth c X (xA X) 9 0 0 cX9_walk RX9) (hr : meth.sig.returnType = (some .int)) {v2 : Int32} {v3 : Int32} {v4 : Int32} {K : ST → Int32 → Prop} {Q : Int32 → ST → Prop} (hK : ∀ (s0 : ST) (v6 : Int32), K s0 v6 → G p l e rm_X9_walk s m args below meth c X (xA X) 9 0 0 (MQ below (va_Qi Q (Bw X) (xA X)) args s 0 0 (xA X)) s0 148 [some (.ref (xa X 63)), none, some (.int v2), some (.int v3), some (.int v4), none, some (.int v6), none, none] []) : ∀ (n : Nat) (s0 : ST) (v6 : Int32) (v7 : Int32), w_X9_walk_L90 v2 v3 v4 K Q n s0 v6 v7 → G p l e rm_X9_walk s m args below meth c X (xA X) 9 0 0 (MQ below (va_Qi Q (Bw X) (xA X)) args s 0 0 (xA X)) s0 90 [some (.ref (xa X 63)), none, some (.int v2), some (.int v3), some (.int v4), none, some (.int v6), some (.int v7), none] [] := by
  intro n
  induction n with
  | zero => intro s0 v6 v7 h; exact h.elim
  | succ n ih =>
    intro s0 v6 v7 h
    refine r_iload (pc := 90) E dX9_walk_90 rfl ?_
    refine r_iload_n (pc := 92) E dX9_walk_92 rfl rfl ?_
    refine r_icmp_ge (pc := 93) (tgt := 148) E dX9_walk_93 (by decide) (fun c8 => ?_) (fun c8 => ?_)
    · have h := h.1 c8
      exact r_forget (le_s (le_n (le_s (le_s (le_s (le_n (le_s (le_n (le_n le_0))))))))) (hK _ _ h)
    · have h := h.2 c8
      refine r_aload_n (pc := 96) E dX9_walk_96 rfl rfl ?_
      refine r_get (pc := 97) (j := 16) (v := .ref (xa X 69)) E ok_63 kc_9 rfl q_792 rfl dX9_walk_97 ?_
      refine r_aload_n (pc := 100) E dX9_walk_100 rfl rfl ?_
      refine r_get (pc := 101) (j := 51) (v := .ref (xa X 87)) E ok_63 kc_9 rfl q_827 rfl dX9_walk_101 ?_
      refine r_iload (pc := 104) E dX9_walk_104 rfl ?_
      refine r_iald (pc := 106) (n := 7) E ok_87 rfl h.1 dX9_walk_106 ?_
      have h := h.2
      refine r_iald (pc := 107) (n := 10) E ok_69 rfl h.1 dX9_walk_107 ?_
      have h := h.2
      refine r_iload (pc := 108) E dX9_walk_108 rfl ?_
      refine r_aload_n (pc := 110) E dX9_walk_110 rfl rfl ?_
      refine r_get (pc := 111) (j := 17) (v := .ref (xa X 70)) E ok_63 kc_9 rfl q_793 rfl dX9_walk_111 ?_
      refine r_aload_n (pc := 114) E dX9_walk_114 rfl rfl ?_
      refine r_get (pc := 115) (j := 51) (v := .ref (xa X 87)) E ok_63 kc_9 rfl q_827 rfl dX9_walk_115 ?_
      refine r_iload (pc := 118) E dX9_walk_118 rfl ?_
      refine r_iald (pc := 120) (n := 7) E ok_87 rfl h.1 dX9_walk_120 ?_
      have h := h.2
      refine r_iald (pc := 121) (n := 10) E ok_70 rfl h.1 dX9_walk_121 ?_
      have h := h.2
      refine r_imul (pc := 122) E dX9_walk_122 ?_
      refine r_isub (pc := 123) E dX9_walk_123 ?_
      refine r_topi (fun x7 ex7 => ?_)
      have h := h x7 ex7
      refine r_istore (pc := 124) (lv' := [some (.ref (xa X 63)), none, some (.int v2), some (.int v3), some (.int v4), none, some (.int v6), some (.int v7), some (.int x7)]) E dX9_walk_124 rfl rfl rfl ?_
      refine r_iload (pc := 126) E dX9_walk_126 rfl ?_
      refine r_iload (pc := 128) E dX9_walk_128 rfl ?_
      refine r_if_le (pc := 130) (tgt := 138) E dX9_walk_130 (by decide) (fun c9 => ?_) (fun c9 => ?_)
      · have h := h.1 c9
        refine r_iconst (pc := 138) (v := 0) E dX9_walk_138 (by decide) ?_
        refine r_iadd (pc := 139) E dX9_walk_139 ?_
        refine r_topi (fun x8 ex8 => ?_)
        have h := h x8 ex8
        refine r_istore (pc := 140) (lv' := [some (.ref (xa X 63)), none, some (.int v2), some (.int v3), some (.int v4), none, some (.int x8), some (.int v7), some (.int x7)]) E dX9_walk_140 rfl rfl rfl ?_
        obtain ⟨x9, ex9⟩ : ∃ z : Int32, z = v7 + 1 := ⟨_, rfl⟩
        have h := h x9 ex9
        refine r_iinc (pc := 142) (v := 1) (lv' := [some (.ref (xa X 63)), none, some (.int v2), some (.int v3), some (.int v4), none, some (.int x8), some (.int x9), some (.int x7)]) E dX9_walk_142 rfl (by decide) rfl rfl (by rw [ex9]; rfl) ?_
        refine r_goto (pc := 145) (tgt := 90) E dX9_walk_145 (by decide) ?_
        exact r_forget (le_s (le_n (le_s (le_s (le_s (le_n (le_s (le_s (le_n le_0))))))))) (ih _ _ _ h)
      · have h := h.2 c9
        refine r_iload (pc := 133) E dX9_walk_133 rfl ?_
        refine r_goto (pc := 135) (tgt := 139) E dX9_walk_135 (by decide) ?_
        refine r_iadd (pc := 139) E dX9_walk_139 ?_
        refine r_topi (fun x10 ex10 => ?_)
        have h := h x10 ex10
        refine r_istore (pc := 140) (lv' := [some (.ref (xa X 63)), none, some (.int v2), some (.int v3), some (.int v4), none, some (.int x10), some (.int v7), some (.int x7)]) E dX9_walk_140 rfl rfl rfl ?_
        obtain ⟨x11, ex11⟩ : ∃ z : Int32, z = v7 + 1 := ⟨_, rfl⟩
        have h := h x11 ex11
        refine r_iinc (pc := 142) (v := 1) (lv' := [some (.ref (xa X 63)), none, some (.int v2), some (.int v3), some (.int v4), none, some (.int x10), some (.int x11), some (.int x7)]) E dX9_walk_142 rfl (by decide) rfl rfl (by rw [ex11]; rfl) ?_
        refine r_goto (pc := 145) (tgt := 90) E dX9_walk_145 (by decide) ?_
        exact r_forget (le_s (le_n (le_s (le_s (le_s (le_n (le_s (le_s (le_n le_0))))))))) (ih _ _ _ h)

def w_X9_walk_L162 (v2 : Int32) (v3 : Int32) (v4 : Int32) (K : ST → Prop) (Q : Int32 → ST → Prop) : Nat → ST → Int32 → Prop
  | 0, _, _ => False
  | n + 1, s0, v7 => ((v3 ≤ v7 → (K s0)) ∧ (¬ (v3 ≤ v7) → (vp_in v7 7 ∧ (vp_in v7 7 ∧ (∀ s6 : ST, s6 = up s0 88 v7.toNatClampNeg (s0 87 v7.toNatClampNeg) → (∀ x13 : Int32, x13 = v7 + 1 → (w_X9_walk_L162 v2 v3 v4 K Q n s6 x13)))))))
set_option maxRecDepth 100000 in
set_option maxHeartbeats 4000000 in
theorem t_X9_walk_L162 {p : Program} {l : Launch} {e : Env} {s : State} {m : MethodId} {args : Array Value} {below : List Frame} {meth : Method} {c : Code} {X : XT} (E : Ev p rm_X9_walk s m args meth c X (xA X) 9 0 0 cX9_walk RX9) (hr : meth.sig.returnType = (some .int)) {v2 : Int32} {v3 : Int32} {v4 : Int32} {K : ST → Prop} {Q : Int32 → ST → Prop} (hK : ∀ (s0 : ST), K s0 → G p l e rm_X9_walk s m args below meth c X (xA X) 9 0 0 (MQ below (va_Qi Q (Bw X) (xA X)) args s 0 0 (xA X)) s0 188 [some (.ref (xa X 63)), none, some (.int v2), some (.int v3), some (.int v4), none, none, none, none] []) : ∀ (n : Nat) (s0 : ST) (v7 : Int32), w_X9_walk_L162 v2 v3 v4 K Q n s0 v7 → G p l e rm_X9_walk s m args below meth c X (xA X) 9 0 0 (MQ below (va_Qi Q (Bw X) (xA X)) args s 0 0 (xA X)) s0 162 [some (.ref (xa X 63)), none, some (.int v2), some (.int v3), some (.int v4), none, none, some (.int v7), none] [] := by
  intro n
  induction n with
  | zero => intro s0 v7 h; exact h.elim
  | succ n ih =>
    intro s0 v7 h
    refine r_iload (pc := 162) E dX9_walk_162 rfl ?_
    refine r_iload_n (pc := 164) E dX9_walk_164 rfl rfl ?_
    refine r_icmp_ge (pc := 165) (tgt := 188) E dX9_walk_165 (by decide) (fun c11 => ?_) (fun c11 => ?_)
    · have h := h.1 c11
      exact r_forget (le_s (le_n (le_s (le_s (le_s (le_n (le_n (le_n (le_n le_0))))))))) (hK _  h)
    · have h := h.2 c11
      refine r_aload_n (pc := 168) E dX9_walk_168 rfl rfl ?_
      refine r_get (pc := 169) (j := 52) (v := .ref (xa X 88)) E ok_63 kc_9 rfl q_828 rfl dX9_walk_169 ?_
      refine r_iload (pc := 172) E dX9_walk_172 rfl ?_
      refine r_aload_n (pc := 174) E dX9_walk_174 rfl rfl ?_
      refine r_get (pc := 175) (j := 51) (v := .ref (xa X 87)) E ok_63 kc_9 rfl q_827 rfl dX9_walk_175 ?_
      refine r_iload (pc := 178) E dX9_walk_178 rfl ?_
      refine r_iald (pc := 180) (n := 7) E ok_87 rfl h.1 dX9_walk_180 ?_
      have h := h.2
      refine r_iast (pc := 181) (n := 7) E ok_88 rfl h.1 dX9_walk_181 (fun s6 es6 => ?_)
      have h := h.2 s6 es6
      obtain ⟨x13, ex13⟩ : ∃ z : Int32, z = v7 + 1 := ⟨_, rfl⟩
      have h := h x13 ex13
      refine r_iinc (pc := 182) (v := 1) (lv' := [some (.ref (xa X 63)), none, some (.int v2), some (.int v3), some (.int v4), none, none, some (.int x13), none]) E dX9_walk_182 rfl (by decide) rfl rfl (by rw [ex13]; rfl) ?_
      refine r_goto (pc := 185) (tgt := 162) E dX9_walk_185 (by decide) ?_
      exact r_forget (le_s (le_n (le_s (le_s (le_s (le_n (le_n (le_s (le_n le_0))))))))) (ih _ _ h)

def w_X9_walk_L79 (v2 : Int32) (v3 : Int32) (K : ST → Int32 → Prop) (Q : Int32 → ST → Prop) : Nat → ST → Int32 → Int32 → Prop
  | 0, _, _, _ => False
  | n + 1, s0, v4, v5 => ((v5 = 0 → (K s0 v4)) ∧ (¬ (v5 = 0) → (∃ n2 : Nat, w_X9_walk_L90 v2 v3 v4 (fun (s4 : ST) (x12 : Int32) => ((x12 ≤ v4 → (w_X9_next s4 v3 (fun r1 s5 => w_X9_walk_L79 v2 v3 K Q n s5 v4 r1))) ∧ (¬ (x12 ≤ v4) → (∃ n3 : Nat, w_X9_walk_L162 v2 v3 x12 (fun (s7 : ST) => w_X9_next s7 v3 (fun r2 s8 => w_X9_walk_L79 v2 v3 K Q n s8 x12 r2)) Q n3 s4 0)))) Q n2 s0 0 0)))
set_option maxRecDepth 100000 in
set_option maxHeartbeats 4000000 in
theorem t_X9_walk_L79 {p : Program} {l : Launch} {e : Env} {s : State} {m : MethodId} {args : Array Value} {below : List Frame} {meth : Method} {c : Code} {X : XT} (E : Ev p rm_X9_walk s m args meth c X (xA X) 9 0 0 cX9_walk RX9) (hr : meth.sig.returnType = (some .int)) {v2 : Int32} {v3 : Int32} {K : ST → Int32 → Prop} {Q : Int32 → ST → Prop} (hK : ∀ (s0 : ST) (v4 : Int32), K s0 v4 → G p l e rm_X9_walk s m args below meth c X (xA X) 9 0 0 (MQ below (va_Qi Q (Bw X) (xA X)) args s 0 0 (xA X)) s0 198 [some (.ref (xa X 63)), none, some (.int v2), some (.int v3), some (.int v4), none, none, none, none] []) : ∀ (n : Nat) (s0 : ST) (v4 : Int32) (v5 : Int32), w_X9_walk_L79 v2 v3 K Q n s0 v4 v5 → G p l e rm_X9_walk s m args below meth c X (xA X) 9 0 0 (MQ below (va_Qi Q (Bw X) (xA X)) args s 0 0 (xA X)) s0 79 [some (.ref (xa X 63)), none, some (.int v2), some (.int v3), some (.int v4), some (.int v5), none, none, none] [] := by
  intro n
  induction n with
  | zero => intro s0 v4 v5 h; exact h.elim
  | succ n ih =>
    intro s0 v4 v5 h
    refine r_iload (pc := 79) E dX9_walk_79 rfl ?_
    refine r_if_eq (pc := 81) (tgt := 198) E dX9_walk_81 (by decide) (fun c7 => ?_) (fun c7 => ?_)
    · have h := h.1 c7
      exact r_forget (le_s (le_n (le_s (le_s (le_s (le_n (le_n (le_n (le_n le_0))))))))) (hK _ _ h)
    · have h := h.2 c7
      refine r_iconst (pc := 84) (v := 0) E dX9_walk_84 (by decide) ?_
      refine r_istore (pc := 85) (lv' := [some (.ref (xa X 63)), none, some (.int v2), some (.int v3), some (.int v4), some (.int v5), some (.int 0), none, none]) E dX9_walk_85 rfl rfl rfl ?_
      refine r_iconst (pc := 87) (v := 0) E dX9_walk_87 (by decide) ?_
      refine r_istore (pc := 88) (lv' := [some (.ref (xa X 63)), none, some (.int v2), some (.int v3), some (.int v4), some (.int v5), some (.int 0), some (.int 0), none]) E dX9_walk_88 rfl rfl rfl ?_
      obtain ⟨n2, h⟩ := h
      refine r_forget (le_s (le_n (le_s (le_s (le_s (le_n (le_s (le_s (le_n le_0))))))))) (t_X9_walk_L90 E hr ?_ n2 _ _ _ h)
      intro s4 x12 h
      refine r_iload (pc := 148) E dX9_walk_148 rfl ?_
      refine r_iload (pc := 150) E dX9_walk_150 rfl ?_
      refine r_icmp_le (pc := 152) (tgt := 188) E dX9_walk_152 (by decide) (fun c10 => ?_) (fun c10 => ?_)
      · have h := h.1 c10
        refine r_aload_n (pc := 188) E dX9_walk_188 rfl rfl ?_
        refine r_iload_n (pc := 189) E dX9_walk_189 rfl rfl ?_
        refine afterI (pc := 190) E (fun H locs ls hP hS hl => runV (As := [.int v3]) (rest := []) E (c_X9_next X _ _ _  h) ok_63 kc_9.1 ci_X9_next q_1084 rfl rfl rfl rfl dX9_walk_190 hP hS hl) (fun r1 s5 h => ?_)
        refine r_istore (pc := 193) (lv' := [some (.ref (xa X 63)), none, some (.int v2), some (.int v3), some (.int v4), some (.int r1), some (.int x12), none, none]) E dX9_walk_193 rfl rfl rfl ?_
        refine r_goto (pc := 195) (tgt := 79) E dX9_walk_195 (by decide) ?_
        exact r_forget (le_s (le_n (le_s (le_s (le_s (le_s (le_n (le_n (le_n le_0))))))))) (ih _ _ _ h)
      · have h := h.2 c10
        refine r_iload (pc := 155) E dX9_walk_155 rfl ?_
        refine r_istore (pc := 157) (lv' := [some (.ref (xa X 63)), none, some (.int v2), some (.int v3), some (.int x12), none, some (.int x12), none, none]) E dX9_walk_157 rfl rfl rfl ?_
        refine r_iconst (pc := 159) (v := 0) E dX9_walk_159 (by decide) ?_
        refine r_istore (pc := 160) (lv' := [some (.ref (xa X 63)), none, some (.int v2), some (.int v3), some (.int x12), none, some (.int x12), some (.int 0), none]) E dX9_walk_160 rfl rfl rfl ?_
        obtain ⟨n3, h⟩ := h
        refine r_forget (le_s (le_n (le_s (le_s (le_s (le_n (le_n (le_s (le_n le_0))))))))) (t_X9_walk_L162 E hr ?_ n3 _ _ h)
        intro s7 h
        refine r_aload_n (pc := 188) E dX9_walk_188 rfl rfl ?_
        refine r_iload_n (pc := 189) E dX9_walk_189 rfl rfl ?_
        refine afterI (pc := 190) E (fun H locs ls hP hS hl => runV (As := [.int v3]) (rest := []) E (c_X9_next X _ _ _  h) ok_63 kc_9.1 ci_X9_next q_1084 rfl rfl rfl rfl dX9_walk_190 hP hS hl) (fun r2 s8 h => ?_)
        refine r_istore (pc := 193) (lv' := [some (.ref (xa X 63)), none, some (.int v2), some (.int v3), some (.int x12), some (.int r2), none, none, none]) E dX9_walk_193 rfl rfl rfl ?_
        refine r_goto (pc := 195) (tgt := 79) E dX9_walk_195 (by decide) ?_
        exact r_forget (le_s (le_n (le_s (le_s (le_s (le_s (le_n (le_n (le_n le_0))))))))) (ih _ _ _ h)

def w_X9_walk (s0 : ST) (a1 : Int32) (a2 : Int32) (Q : Int32 → ST → Prop) : Prop := ∀ s1 : ST, s1 = up s0 63 0 0 → (∃ n1 : Nat, w_X9_walk_L10 a1 a2 (fun (s3 : ST) (x6 : Int32) => ((a1 < 1 → (Q (-1000001) s3)) ∧ (¬ (a1 < 1) → (((0 < (a1 >>> ((s3 63 10) &&& 31)) → (Q (-1000001) s3)) ∧ (¬ (0 < (a1 >>> ((s3 63 10) &&& 31))) → (((x6 ≤ 7 → (∃ n4 : Nat, w_X9_walk_L79 a2 x6 (fun (s9 : ST) (x14 : Int32) => ((¬ a2 = (-1000000) → (w_X9_in s9 ((a2 : Int32).toInt64) 0 (((x6 - 1) : Int32).toInt64) (fun r3 s10 => ((r3 = 0 → (Q (-1000000) s10)) ∧ (¬ (r3 = 0) → (vp_in a2 7 ∧ (Q (s10 88 a2.toNatClampNeg) s10))))))) ∧ (a2 = (-1000000) → (Q x14 s9)))) Q n4 s3 (-1) 1)) ∧ (¬ (x6 ≤ 7) → (Q (-1000001) s3)))))))))) Q n1 s1 0 0)
set_option maxRecDepth 100000 in
set_option maxHeartbeats 4000000 in
theorem c_X9_walk {l : Launch} (X : XT) (s0 : ST) (a1 : Int32) (a2 : Int32) (Q : Int32 → ST → Prop) (h : w_X9_walk s0 a1 a2 Q) : MetI l yX9_walk (wS yX9_walk cX9_walk 9 (some .int)) rm_X9_walk X s0 [.ref (xa X 63), .int a1, .int a2] Q := by
  refine metG (own := RX9) (k := 6) (lv0 := [some (.ref (xa X 63)), some (.int a1), some (.int a2), none, none, none, none, none, none]) (by decide) rfl rfl rfl ?_
  intro p e s m args below meth c E hr
  refine r_aload_n (pc := 0) E dX9_walk_0 rfl rfl ?_
  refine r_iconst (pc := 1) (v := 0) E dX9_walk_1 (by decide) ?_
  refine r_put (pc := 2) (j := 0) E ok_63 kc_9 rfl q_776 rfl rfl rfl dX9_walk_2 (fun s1 es1 => ?_)
  have h := h s1 es1
  refine r_iconst (pc := 5) (v := 0) E dX9_walk_5 (by decide) ?_
  refine r_istore_n (pc := 6) (lv' := [some (.ref (xa X 63)), some (.int a1), some (.int a2), some (.int 0), none, none, none, none, none]) E dX9_walk_6 rfl rfl rfl rfl ?_
  refine r_iconst (pc := 7) (v := 0) E dX9_walk_7 (by decide) ?_
  refine r_istore (pc := 8) (lv' := [some (.ref (xa X 63)), some (.int a1), some (.int a2), some (.int 0), some (.int 0), none, none, none, none]) E dX9_walk_8 rfl rfl rfl ?_
  obtain ⟨n1, h⟩ := h
  refine r_forget (le_s (le_s (le_s (le_s (le_s (le_n (le_n (le_n (le_n le_0))))))))) (t_X9_walk_L10 E hr ?_ n1 _ _ _ h)
  intro s3 x6 h
  refine r_iload_n (pc := 50) E dX9_walk_50 rfl rfl ?_
  refine r_iconst (pc := 51) (v := 1) E dX9_walk_51 (by decide) ?_
  refine r_icmp_lt (pc := 52) (tgt := 70) E dX9_walk_52 (by decide) (fun c4 => ?_) (fun c4 => ?_)
  · have h := h.1 c4
    refine r_ldc (pc := 70) (v := (-1000001)) E q_951 dX9_walk_70 ?_
    exact r_iret (pc := 72) E hr dX9_walk_72 h
  · have h := h.2 c4
    refine r_iload_n (pc := 55) E dX9_walk_55 rfl rfl ?_
    refine r_aload_n (pc := 56) E dX9_walk_56 rfl rfl ?_
    refine r_get (pc := 57) (j := 10) E ok_63 kc_9 rfl q_786 (svI rfl) dX9_walk_57 ?_
    refine r_ishr (pc := 60) E dX9_walk_60 ?_
    refine r_if_gt (pc := 61) (tgt := 70) E dX9_walk_61 (by decide) (fun c5 => ?_) (fun c5 => ?_)
    · have h := h.1 c5
      refine r_ldc (pc := 70) (v := (-1000001)) E q_951 dX9_walk_70 ?_
      exact r_iret (pc := 72) E hr dX9_walk_72 h
    · have h := h.2 c5
      refine r_iload_n (pc := 64) E dX9_walk_64 rfl rfl ?_
      refine r_bipush (pc := 65) (v := 7) E dX9_walk_65 (by decide) ?_
      refine r_icmp_le (pc := 67) (tgt := 73) E dX9_walk_67 (by decide) (fun c6 => ?_) (fun c6 => ?_)
      · have h := h.1 c6
        refine r_iconst (pc := 73) (v := (-1)) E dX9_walk_73 (by decide) ?_
        refine r_istore (pc := 74) (lv' := [some (.ref (xa X 63)), some (.int a1), some (.int a2), some (.int x6), some (.int (-1)), none, none, none, none]) E dX9_walk_74 rfl rfl rfl ?_
        refine r_iconst (pc := 76) (v := 1) E dX9_walk_76 (by decide) ?_
        refine r_istore (pc := 77) (lv' := [some (.ref (xa X 63)), some (.int a1), some (.int a2), some (.int x6), some (.int (-1)), some (.int 1), none, none, none]) E dX9_walk_77 rfl rfl rfl ?_
        obtain ⟨n4, h⟩ := h
        refine r_forget (le_s (le_n (le_s (le_s (le_s (le_s (le_n (le_n (le_n le_0))))))))) (t_X9_walk_L79 E hr ?_ n4 _ _ _ h)
        intro s9 x14 h
        refine r_iload_n (pc := 198) E dX9_walk_198 rfl rfl ?_
        refine r_ldc (pc := 199) (v := (-1000000)) E q_957 dX9_walk_199 ?_
        refine r_icmp_ne (pc := 201) (tgt := 209) E dX9_walk_201 (by decide) (fun c12 => ?_) (fun c12 => ?_)
        · have h := h.1 c12
          refine r_iload_n (pc := 209) E dX9_walk_209 rfl rfl ?_
          refine r_i2l (pc := 210) E dX9_walk_210 ?_
          refine r_lconst (pc := 211) (v := 0) E dX9_walk_211 rfl ?_
          refine r_iload_n (pc := 212) E dX9_walk_212 rfl rfl ?_
          refine r_iconst (pc := 213) (v := 1) E dX9_walk_213 (by decide) ?_
          refine r_isub (pc := 214) E dX9_walk_214 ?_
          refine r_i2l (pc := 215) E dX9_walk_215 ?_
          refine afterI (pc := 216) E (fun H locs ls hP hS hl => runS (As := [.long ((a2 : Int32).toInt64), .long 0, .long (((x6 - 1) : Int32).toInt64)]) (rest := []) E (c_X9_in X _ _ _ _ _  h) cs_X9_in q_947 rfl rfl rfl rfl dX9_walk_216 hP hS hl) (fun r3 s10 h => ?_)
          refine r_if_eq (pc := 219) (tgt := 231) E dX9_walk_219 (by decide) (fun c13 => ?_) (fun c13 => ?_)
          · have h := h.1 c13
            refine r_ldc (pc := 231) (v := (-1000000)) E q_957 dX9_walk_231 ?_
            exact r_iret (pc := 233) E hr dX9_walk_233 h
          · have h := h.2 c13
            refine r_aload_n (pc := 222) E dX9_walk_222 rfl rfl ?_
            refine r_get (pc := 223) (j := 52) (v := .ref (xa X 88)) E ok_63 kc_9 rfl q_828 rfl dX9_walk_223 ?_
            refine r_iload_n (pc := 226) E dX9_walk_226 rfl rfl ?_
            refine r_iald (pc := 227) (n := 7) E ok_88 rfl h.1 dX9_walk_227 ?_
            have h := h.2
            refine r_goto (pc := 228) (tgt := 233) E dX9_walk_228 (by decide) ?_
            exact r_iret (pc := 233) E hr dX9_walk_233 h
        · have h := h.2 c12
          refine r_iload (pc := 204) E dX9_walk_204 rfl ?_
          refine r_goto (pc := 206) (tgt := 233) E dX9_walk_206 (by decide) ?_
          exact r_iret (pc := 233) E hr dX9_walk_233 h
      · have h := h.2 c6
        refine r_ldc (pc := 70) (v := (-1000001)) E q_951 dX9_walk_70 ?_
        exact r_iret (pc := 72) E hr dX9_walk_72 h

/-! ChairFrontModel.kindOf -/
def rm_X9_kindOf : Room := { frames := 1, cells := 0, slots := 0, locals := 21 }
theorem ci_X9_kindOf : CI yX9_kindOf RX9 cX9_kindOf 2 (some .int) 1 := ⟨q_1094, q_49, q_65, q_1095, by decide +kernel⟩
def w_X9_kindOf (s0 : ST) (a1 : Int32) (Q : Int32 → ST → Prop) : Prop := w_X9_standing s0 a1 (fun r1 s1 => ((¬ r1 = 0 → (vp_in a1 10 ∧ ((((s1 66 a1.toNatClampNeg) ≤ 0 → (vp_in a1 10 ∧ ((((s1 69 a1.toNatClampNeg) ≤ 0 → (Q 1 s1)) ∧ (¬ ((s1 69 a1.toNatClampNeg) ≤ 0) → (Q 2 s1)))))) ∧ (¬ ((s1 66 a1.toNatClampNeg) ≤ 0) → (Q 0 s1)))))) ∧ (r1 = 0 → (Q 3 s1))))
set_option maxRecDepth 100000 in
set_option maxHeartbeats 4000000 in
theorem c_X9_kindOf {l : Launch} (X : XT) (s0 : ST) (a1 : Int32) (Q : Int32 → ST → Prop) (h : w_X9_kindOf s0 a1 Q) : MetI l yX9_kindOf (wS yX9_kindOf cX9_kindOf 2 (some .int)) rm_X9_kindOf X s0 [.ref (xa X 63), .int a1] Q := by
  refine metG (own := RX9) (k := 0) (lv0 := [some (.ref (xa X 63)), some (.int a1)]) (by decide) rfl rfl rfl ?_
  intro p e s m args below meth c E hr
  refine r_aload_n (pc := 0) E dX9_kindOf_0 rfl rfl ?_
  refine r_iload_n (pc := 1) E dX9_kindOf_1 rfl rfl ?_
  refine afterI (pc := 2) E (fun H locs ls hP hS hl => runV (As := [.int a1]) (rest := []) E (c_X9_standing X _ _ _  h) ok_63 kc_9.1 ci_X9_standing q_964 rfl rfl rfl rfl dX9_kindOf_2 hP hS hl) (fun r1 s1 h => ?_)
  refine r_if_ne (pc := 5) (tgt := 12) E dX9_kindOf_5 (by decide) (fun c1 => ?_) (fun c1 => ?_)
  · have h := h.1 c1
    refine r_aload_n (pc := 12) E dX9_kindOf_12 rfl rfl ?_
    refine r_get (pc := 13) (j := 13) (v := .ref (xa X 66)) E ok_63 kc_9 rfl q_789 rfl dX9_kindOf_13 ?_
    refine r_iload_n (pc := 16) E dX9_kindOf_16 rfl rfl ?_
    refine r_iald (pc := 17) (n := 10) E ok_66 rfl h.1 dX9_kindOf_17 ?_
    have h := h.2
    refine r_if_le (pc := 18) (tgt := 25) E dX9_kindOf_18 (by decide) (fun c2 => ?_) (fun c2 => ?_)
    · have h := h.1 c2
      refine r_aload_n (pc := 25) E dX9_kindOf_25 rfl rfl ?_
      refine r_get (pc := 26) (j := 16) (v := .ref (xa X 69)) E ok_63 kc_9 rfl q_792 rfl dX9_kindOf_26 ?_
      refine r_iload_n (pc := 29) E dX9_kindOf_29 rfl rfl ?_
      refine r_iald (pc := 30) (n := 10) E ok_69 rfl h.1 dX9_kindOf_30 ?_
      have h := h.2
      refine r_if_le (pc := 31) (tgt := 38) E dX9_kindOf_31 (by decide) (fun c3 => ?_) (fun c3 => ?_)
      · have h := h.1 c3
        refine r_iconst (pc := 38) (v := 1) E dX9_kindOf_38 (by decide) ?_
        exact r_iret (pc := 39) E hr dX9_kindOf_39 h
      · have h := h.2 c3
        refine r_iconst (pc := 34) (v := 2) E dX9_kindOf_34 (by decide) ?_
        refine r_goto (pc := 35) (tgt := 39) E dX9_kindOf_35 (by decide) ?_
        exact r_iret (pc := 39) E hr dX9_kindOf_39 h
    · have h := h.2 c2
      refine r_iconst (pc := 21) (v := 0) E dX9_kindOf_21 (by decide) ?_
      refine r_goto (pc := 22) (tgt := 39) E dX9_kindOf_22 (by decide) ?_
      exact r_iret (pc := 39) E hr dX9_kindOf_39 h
  · have h := h.2 c1
    refine r_iconst (pc := 8) (v := 3) E dX9_kindOf_8 (by decide) ?_
    refine r_goto (pc := 9) (tgt := 39) E dX9_kindOf_9 (by decide) ?_
    exact r_iret (pc := 39) E hr dX9_kindOf_39 h

/-! ChairFrontModel.kind -/
def rm_X9_kind : Room := { frames := 2, cells := 0, slots := 0, locals := 46 }
theorem ci_X9_kind : CI yX9_kind RX9 cX9_kind 2 (some .int) 1 := ⟨q_1089, q_1090, q_65, q_1091, by decide +kernel⟩
def w_X9_kind (s0 : ST) (a1 : Int32) (Q : Int32 → ST → Prop) : Prop := ∀ s1 : ST, s1 = up s0 63 0 0 → (w_X9_isStretch s1 a1 (fun r1 s2 => ((r1 = 0 → (Q (-1000001) s2)) ∧ (¬ (r1 = 0) → (w_X9_kindOf s2 a1 (fun r2 s3 => Q r2 s3))))))
set_option maxRecDepth 100000 in
set_option maxHeartbeats 4000000 in
theorem c_X9_kind {l : Launch} (X : XT) (s0 : ST) (a1 : Int32) (Q : Int32 → ST → Prop) (h : w_X9_kind s0 a1 Q) : MetI l yX9_kind (wS yX9_kind cX9_kind 2 (some .int)) rm_X9_kind X s0 [.ref (xa X 63), .int a1] Q := by
  refine metG (own := RX9) (k := 0) (lv0 := [some (.ref (xa X 63)), some (.int a1)]) (by decide) rfl rfl rfl ?_
  intro p e s m args below meth c E hr
  refine r_aload_n (pc := 0) E dX9_kind_0 rfl rfl ?_
  refine r_iconst (pc := 1) (v := 0) E dX9_kind_1 (by decide) ?_
  refine r_put (pc := 2) (j := 0) E ok_63 kc_9 rfl q_776 rfl rfl rfl dX9_kind_2 (fun s1 es1 => ?_)
  have h := h s1 es1
  refine r_aload_n (pc := 5) E dX9_kind_5 rfl rfl ?_
  refine r_iload_n (pc := 6) E dX9_kind_6 rfl rfl ?_
  refine afterI (pc := 7) E (fun H locs ls hP hS hl => runV (As := [.int a1]) (rest := []) E (c_X9_isStretch X _ _ _  h) ok_63 kc_9.1 ci_X9_isStretch q_958 rfl rfl rfl rfl dX9_kind_7 hP hS hl) (fun r1 s2 h => ?_)
  refine r_if_eq (pc := 10) (tgt := 21) E dX9_kind_10 (by decide) (fun c1 => ?_) (fun c1 => ?_)
  · have h := h.1 c1
    refine r_ldc (pc := 21) (v := (-1000001)) E q_951 dX9_kind_21 ?_
    exact r_iret (pc := 23) E hr dX9_kind_23 h
  · have h := h.2 c1
    refine r_aload_n (pc := 13) E dX9_kind_13 rfl rfl ?_
    refine r_iload_n (pc := 14) E dX9_kind_14 rfl rfl ?_
    refine afterI (pc := 15) E (fun H locs ls hP hS hl => runV (As := [.int a1]) (rest := []) E (c_X9_kindOf X _ _ _  h) ok_63 kc_9.1 ci_X9_kindOf q_1092 rfl rfl rfl rfl dX9_kind_15 hP hS hl) (fun r2 s3 h => ?_)
    refine r_goto (pc := 18) (tgt := 23) E dX9_kind_18 (by decide) ?_
    exact r_iret (pc := 23) E hr dX9_kind_23 h

/-! ChairFrontModel.as -/
def rm_X9_as : Room := { frames := 2, cells := 0, slots := 0, locals := 46 }
theorem ci_X9_as : CI yX9_as RX9 cX9_as 4 (some .int) 2 := ⟨q_1097, q_1098, q_65, q_1099, by decide +kernel⟩
def w_X9_as (s0 : ST) (a1 : Int32) (a2 : Int32) (Q : Int32 → ST → Prop) : Prop := ∀ s1 : ST, s1 = up s0 63 0 0 → (w_X9_isStretch s1 a1 (fun r1 s2 => ((r1 = 0 → (Q (-1000001) s2)) ∧ (¬ (r1 = 0) → (w_X9_in s2 ((a2 : Int32).toInt64) 0 3 (fun r2 s3 => ((¬ r2 = 0 → (w_X9_kindOf s3 a1 (fun r3 s4 => ((a2 = 0 → (vp_in a1 10 ∧ (Q (s4 64 a1.toNatClampNeg) s4))) ∧ (¬ (a2 = 0) → (((r3 = a2 → (vp_in a1 10 ∧ (Q (s4 64 a1.toNatClampNeg) s4))) ∧ (¬ (r3 = a2) → (((¬ a2 = 1 → (Q (-1000004) s4)) ∧ (a2 = 1 → (((¬ r3 = 2 → (Q (-1000004) s4)) ∧ (r3 = 2 → (vp_in a1 10 ∧ (Q (s4 64 a1.toNatClampNeg) s4)))))))))))))))) ∧ (r2 = 0 → (Q (-1000001) s3)))))))))
set_option maxRecDepth 100000 in
set_option maxHeartbeats 4000000 in
theorem c_X9_as {l : Launch} (X : XT) (s0 : ST) (a1 : Int32) (a2 : Int32) (Q : Int32 → ST → Prop) (h : w_X9_as s0 a1 a2 Q) : MetI l yX9_as (wS yX9_as cX9_as 4 (some .int)) rm_X9_as X s0 [.ref (xa X 63), .int a1, .int a2] Q := by
  refine metG (own := RX9) (k := 1) (lv0 := [some (.ref (xa X 63)), some (.int a1), some (.int a2), none]) (by decide) rfl rfl rfl ?_
  intro p e s m args below meth c E hr
  refine r_aload_n (pc := 0) E dX9_as_0 rfl rfl ?_
  refine r_iconst (pc := 1) (v := 0) E dX9_as_1 (by decide) ?_
  refine r_put (pc := 2) (j := 0) E ok_63 kc_9 rfl q_776 rfl rfl rfl dX9_as_2 (fun s1 es1 => ?_)
  have h := h s1 es1
  refine r_aload_n (pc := 5) E dX9_as_5 rfl rfl ?_
  refine r_iload_n (pc := 6) E dX9_as_6 rfl rfl ?_
  refine afterI (pc := 7) E (fun H locs ls hP hS hl => runV (As := [.int a1]) (rest := []) E (c_X9_isStretch X _ _ _  h) ok_63 kc_9.1 ci_X9_isStretch q_958 rfl rfl rfl rfl dX9_as_7 hP hS hl) (fun r1 s2 h => ?_)
  refine r_if_eq (pc := 10) (tgt := 25) E dX9_as_10 (by decide) (fun c1 => ?_) (fun c1 => ?_)
  · have h := h.1 c1
    refine r_ldc (pc := 25) (v := (-1000001)) E q_951 dX9_as_25 ?_
    exact r_iret (pc := 27) E hr dX9_as_27 h
  · have h := h.2 c1
    refine r_iload_n (pc := 13) E dX9_as_13 rfl rfl ?_
    refine r_i2l (pc := 14) E dX9_as_14 ?_
    refine r_lconst (pc := 15) (v := 0) E dX9_as_15 rfl ?_
    refine r_ldc2 (pc := 16) (v := 3) E q_950 dX9_as_16 ?_
    refine afterI (pc := 19) E (fun H locs ls hP hS hl => runS (As := [.long ((a2 : Int32).toInt64), .long 0, .long 3]) (rest := []) E (c_X9_in X _ _ _ _ _  h) cs_X9_in q_947 rfl rfl rfl rfl dX9_as_19 hP hS hl) (fun r2 s3 h => ?_)
    refine r_if_ne (pc := 22) (tgt := 28) E dX9_as_22 (by decide) (fun c2 => ?_) (fun c2 => ?_)
    · have h := h.1 c2
      refine r_aload_n (pc := 28) E dX9_as_28 rfl rfl ?_
      refine r_iload_n (pc := 29) E dX9_as_29 rfl rfl ?_
      refine afterI (pc := 30) E (fun H locs ls hP hS hl => runV (As := [.int a1]) (rest := []) E (c_X9_kindOf X _ _ _  h) ok_63 kc_9.1 ci_X9_kindOf q_1092 rfl rfl rfl rfl dX9_as_30 hP hS hl) (fun r3 s4 h => ?_)
      refine r_istore_n (pc := 33) (lv' := [some (.ref (xa X 63)), some (.int a1), some (.int a2), some (.int r3)]) E dX9_as_33 rfl rfl rfl rfl ?_
      refine r_iload_n (pc := 34) E dX9_as_34 rfl rfl ?_
      refine r_if_eq (pc := 35) (tgt := 53) E dX9_as_35 (by decide) (fun c3 => ?_) (fun c3 => ?_)
      · have h := h.1 c3
        refine r_aload_n (pc := 53) E dX9_as_53 rfl rfl ?_
        refine r_get (pc := 54) (j := 11) (v := .ref (xa X 64)) E ok_63 kc_9 rfl q_787 rfl dX9_as_54 ?_
        refine r_iload_n (pc := 57) E dX9_as_57 rfl rfl ?_
        refine r_iald (pc := 58) (n := 10) E ok_64 rfl h.1 dX9_as_58 ?_
        have h := h.2
        refine r_goto (pc := 59) (tgt := 65) E dX9_as_59 (by decide) ?_
        exact r_iret (pc := 65) E hr dX9_as_65 h
      · have h := h.2 c3
        refine r_iload_n (pc := 38) E dX9_as_38 rfl rfl ?_
        refine r_iload_n (pc := 39) E dX9_as_39 rfl rfl ?_
        refine r_icmp_eq (pc := 40) (tgt := 53) E dX9_as_40 (by decide) (fun c4 => ?_) (fun c4 => ?_)
        · have h := h.1 c4
          refine r_aload_n (pc := 53) E dX9_as_53 rfl rfl ?_
          refine r_get (pc := 54) (j := 11) (v := .ref (xa X 64)) E ok_63 kc_9 rfl q_787 rfl dX9_as_54 ?_
          refine r_iload_n (pc := 57) E dX9_as_57 rfl rfl ?_
          refine r_iald (pc := 58) (n := 10) E ok_64 rfl h.1 dX9_as_58 ?_
          have h := h.2
          refine r_goto (pc := 59) (tgt := 65) E dX9_as_59 (by decide) ?_
          exact r_iret (pc := 65) E hr dX9_as_65 h
        · have h := h.2 c4
          refine r_iload_n (pc := 43) E dX9_as_43 rfl rfl ?_
          refine r_iconst (pc := 44) (v := 1) E dX9_as_44 (by decide) ?_
          refine r_icmp_ne (pc := 45) (tgt := 62) E dX9_as_45 (by decide) (fun c5 => ?_) (fun c5 => ?_)
          · have h := h.1 c5
            refine r_ldcw (pc := 62) (v := (-1000004)) E q_1100 dX9_as_62 ?_
            exact r_iret (pc := 65) E hr dX9_as_65 h
          · have h := h.2 c5
            refine r_iload_n (pc := 48) E dX9_as_48 rfl rfl ?_
            refine r_iconst (pc := 49) (v := 2) E dX9_as_49 (by decide) ?_
            refine r_icmp_ne (pc := 50) (tgt := 62) E dX9_as_50 (by decide) (fun c6 => ?_) (fun c6 => ?_)
            · have h := h.1 c6
              refine r_ldcw (pc := 62) (v := (-1000004)) E q_1100 dX9_as_62 ?_
              exact r_iret (pc := 65) E hr dX9_as_65 h
            · have h := h.2 c6
              refine r_aload_n (pc := 53) E dX9_as_53 rfl rfl ?_
              refine r_get (pc := 54) (j := 11) (v := .ref (xa X 64)) E ok_63 kc_9 rfl q_787 rfl dX9_as_54 ?_
              refine r_iload_n (pc := 57) E dX9_as_57 rfl rfl ?_
              refine r_iald (pc := 58) (n := 10) E ok_64 rfl h.1 dX9_as_58 ?_
              have h := h.2
              refine r_goto (pc := 59) (tgt := 65) E dX9_as_59 (by decide) ?_
              exact r_iret (pc := 65) E hr dX9_as_65 h
    · have h := h.2 c2
      refine r_ldc (pc := 25) (v := (-1000001)) E q_951 dX9_as_25 ?_
      exact r_iret (pc := 27) E hr dX9_as_27 h

/-! ChairFrontModel.began -/
def rm_X9_began : Room := { frames := 0, cells := 0, slots := 0, locals := 0 }
theorem ci_X9_began : CI yX9_began RX9 cX9_began 2 none 1 := ⟨q_1115, q_52, q_65, q_1116, by decide +kernel⟩
def w_X9_began (s0 : ST) (a1 : Int32) (Q : ST → Prop) : Prop := (((16 : Int32) ≤ (s0 63 54) → (Q s0)) ∧ (¬ ((16 : Int32) ≤ (s0 63 54)) → (vp_in (s0 63 54) 16 ∧ (∀ s1 : ST, s1 = up s0 89 (s0 63 54).toNatClampNeg a1 → (∀ s2 : ST, s2 = up s1 63 54 ((s1 63 54) + 1) → (Q s2))))))
set_option maxRecDepth 100000 in
set_option maxHeartbeats 4000000 in
theorem c_X9_began {l : Launch} (X : XT) (s0 : ST) (a1 : Int32) (Q : ST → Prop) (h : w_X9_began s0 a1 Q) : MetV l yX9_began (wS yX9_began cX9_began 2 none) rm_X9_began X s0 [.ref (xa X 63), .int a1] Q := by
  refine metG (own := RX9) (k := 0) (lv0 := [some (.ref (xa X 63)), some (.int a1)]) (by decide) rfl rfl rfl ?_
  intro p e s m args below meth c E hr
  refine r_aload_n (pc := 0) E dX9_began_0 rfl rfl ?_
  refine r_get (pc := 1) (j := 54) E ok_63 kc_9 rfl q_830 (svI rfl) dX9_began_1 ?_
  refine r_bipush (pc := 4) (v := 16) E dX9_began_4 (by decide) ?_
  refine r_icmp_ge (pc := 6) (tgt := 29) E dX9_began_6 (by decide) (fun c1 => ?_) (fun c1 => ?_)
  · have h := h.1 c1
    exact r_vret (pc := 29) E hr dX9_began_29 h
  · have h := h.2 c1
    refine r_aload_n (pc := 9) E dX9_began_9 rfl rfl ?_
    refine r_get (pc := 10) (j := 53) (v := .ref (xa X 89)) E ok_63 kc_9 rfl q_829 rfl dX9_began_10 ?_
    refine r_aload_n (pc := 13) E dX9_began_13 rfl rfl ?_
    refine r_get (pc := 14) (j := 54) E ok_63 kc_9 rfl q_830 (svI rfl) dX9_began_14 ?_
    refine r_iload_n (pc := 17) E dX9_began_17 rfl rfl ?_
    refine r_iast (pc := 18) (n := 16) E ok_89 rfl h.1 dX9_began_18 (fun s1 es1 => ?_)
    have h := h.2 s1 es1
    refine r_aload_n (pc := 19) E dX9_began_19 rfl rfl ?_
    refine r_dup (pc := 20) E dX9_began_20 rfl ?_
    refine r_get (pc := 21) (j := 54) E ok_63 kc_9 rfl q_830 (svI rfl) dX9_began_21 ?_
    refine r_iconst (pc := 24) (v := 1) E dX9_began_24 (by decide) ?_
    refine r_iadd (pc := 25) E dX9_began_25 ?_
    refine r_put (pc := 26) (j := 54) E ok_63 kc_9 rfl q_830 rfl rfl rfl dX9_began_26 (fun s2 es2 => ?_)
    have h := h s2 es2
    exact r_vret (pc := 29) E hr dX9_began_29 h

/-! ChairFrontModel.bareWorth -/
def rm_X9_bareWorth : Room := { frames := 1, cells := 0, slots := 0, locals := 21 }
theorem ci_X9_bareWorth : CI yX9_bareWorth RX9 cX9_bareWorth 2 (some .int) 1 := ⟨q_1111, q_51, q_65, q_1112, by decide +kernel⟩
def w_X9_bareWorth (s0 : ST) (a1 : Int32) (Q : Int32 → ST → Prop) : Prop := w_X9_began s0 13 (fun s1 => vp_in a1 10 ∧ (Q (s1 64 a1.toNatClampNeg) s1))
set_option maxRecDepth 100000 in
set_option maxHeartbeats 4000000 in
theorem c_X9_bareWorth {l : Launch} (X : XT) (s0 : ST) (a1 : Int32) (Q : Int32 → ST → Prop) (h : w_X9_bareWorth s0 a1 Q) : MetI l yX9_bareWorth (wS yX9_bareWorth cX9_bareWorth 2 (some .int)) rm_X9_bareWorth X s0 [.ref (xa X 63), .int a1] Q := by
  refine metG (own := RX9) (k := 0) (lv0 := [some (.ref (xa X 63)), some (.int a1)]) (by decide) rfl rfl rfl ?_
  intro p e s m args below meth c E hr
  refine r_aload_n (pc := 0) E dX9_bareWorth_0 rfl rfl ?_
  refine r_bipush (pc := 1) (v := 13) E dX9_bareWorth_1 (by decide) ?_
  refine afterV (pc := 3) E (fun H locs ls hP hS hl => runV (As := [.int 13]) (rest := []) E (c_X9_began X _ _ _  h) ok_63 kc_9.1 ci_X9_began q_1113 rfl rfl rfl rfl dX9_bareWorth_3 hP hS hl) (fun s1 h => ?_)
  refine r_aload_n (pc := 6) E dX9_bareWorth_6 rfl rfl ?_
  refine r_get (pc := 7) (j := 11) (v := .ref (xa X 64)) E ok_63 kc_9 rfl q_787 rfl dX9_bareWorth_7 ?_
  refine r_iload_n (pc := 10) E dX9_bareWorth_10 rfl rfl ?_
  refine r_iald (pc := 11) (n := 10) E ok_64 rfl h.1 dX9_bareWorth_11 ?_
  have h := h.2
  exact r_iret (pc := 12) E hr dX9_bareWorth_12 h

/-! ChairFrontModel.marked -/
def rm_X9_marked : Room := { frames := 2, cells := 0, slots := 0, locals := 42 }
theorem ci_X9_marked : CI yX9_marked RX9 cX9_marked 3 (some .int) 1 := ⟨q_1119, q_53, q_65, q_1120, by decide +kernel⟩
def w_X9_marked_J68 (Q : Int32 → ST → Prop) (s0 : ST) (t0 : Int32) (t1 : Int32) : Prop := Q (t0 + t1) s0
set_option maxRecDepth 100000 in
set_option maxHeartbeats 4000000 in
theorem t_X9_marked_J68 {p : Program} {l : Launch} {e : Env} {s : State} {m : MethodId} {args : Array Value} {below : List Frame} {meth : Method} {c : Code} {X : XT} (E : Ev p rm_X9_marked s m args meth c X (xA X) 3 0 0 cX9_marked RX9) (hr : meth.sig.returnType = (some .int)) {Q : Int32 → ST → Prop} (s0 : ST) (t0 : Int32) (t1 : Int32) (h : w_X9_marked_J68 Q s0 t0 t1) : G p l e rm_X9_marked s m args below meth c X (xA X) 3 0 0 (MQ below (va_Qi Q (Bw X) (xA X)) args s 0 0 (xA X)) s0 68 [none, none, none] [.int t1, .int t0] := by
  refine r_iadd (pc := 68) E dX9_marked_68 ?_
  exact r_iret (pc := 69) E hr dX9_marked_69 h

def w_X9_marked_J28 (Q : Int32 → ST → Prop) (s0 : ST) (v1 : Int32) (v2 : Int32) : Prop := w_X9_began s0 20 (fun s2 => vp_in v1 10 ∧ (((¬ v2 = 2 → (((¬ v2 = 3 → (w_X9_marked_J68 Q s2 (s2 65 v1.toNatClampNeg) 0)) ∧ (v2 = 3 → (w_X9_bareWorth s2 v1 (fun r3 s3 => w_X9_marked_J68 Q s3 (s2 65 v1.toNatClampNeg) r3)))))) ∧ (v2 = 2 → (vp_in v1 10 ∧ (w_X9_marked_J68 Q s2 (s2 65 v1.toNatClampNeg) (s2 69 v1.toNatClampNeg)))))))
set_option maxRecDepth 100000 in
set_option maxHeartbeats 4000000 in
theorem t_X9_marked_J28 {p : Program} {l : Launch} {e : Env} {s : State} {m : MethodId} {args : Array Value} {below : List Frame} {meth : Method} {c : Code} {X : XT} (E : Ev p rm_X9_marked s m args meth c X (xA X) 3 0 0 cX9_marked RX9) (hr : meth.sig.returnType = (some .int)) {Q : Int32 → ST → Prop} (s0 : ST) (v1 : Int32) (v2 : Int32) (h : w_X9_marked_J28 Q s0 v1 v2) : G p l e rm_X9_marked s m args below meth c X (xA X) 3 0 0 (MQ below (va_Qi Q (Bw X) (xA X)) args s 0 0 (xA X)) s0 28 [some (.ref (xa X 63)), some (.int v1), some (.int v2)] [] := by
  refine r_aload_n (pc := 28) E dX9_marked_28 rfl rfl ?_
  refine r_bipush (pc := 29) (v := 20) E dX9_marked_29 (by decide) ?_
  refine afterV (pc := 31) E (fun H locs ls hP hS hl => runV (As := [.int 20]) (rest := []) E (c_X9_began X _ _ _  h) ok_63 kc_9.1 ci_X9_began q_1113 rfl rfl rfl rfl dX9_marked_31 hP hS hl) (fun s2 h => ?_)
  refine r_aload_n (pc := 34) E dX9_marked_34 rfl rfl ?_
  refine r_get (pc := 35) (j := 12) (v := .ref (xa X 65)) E ok_63 kc_9 rfl q_788 rfl dX9_marked_35 ?_
  refine r_iload_n (pc := 38) E dX9_marked_38 rfl rfl ?_
  refine r_iald (pc := 39) (n := 10) E ok_65 rfl h.1 dX9_marked_39 ?_
  have h := h.2
  refine r_iload_n (pc := 40) E dX9_marked_40 rfl rfl ?_
  refine r_iconst (pc := 41) (v := 2) E dX9_marked_41 (by decide) ?_
  refine r_icmp_ne (pc := 42) (tgt := 54) E dX9_marked_42 (by decide) (fun c3 => ?_) (fun c3 => ?_)
  · have h := h.1 c3
    refine r_iload_n (pc := 54) E dX9_marked_54 rfl rfl ?_
    refine r_iconst (pc := 55) (v := 3) E dX9_marked_55 (by decide) ?_
    refine r_icmp_ne (pc := 56) (tgt := 67) E dX9_marked_56 (by decide) (fun c4 => ?_) (fun c4 => ?_)
    · have h := h.1 c4
      refine r_iconst (pc := 67) (v := 0) E dX9_marked_67 (by decide) ?_
      exact r_forget (le_n (le_n (le_n le_0))) (t_X9_marked_J68 E hr _ _ _ h)
    · have h := h.2 c4
      refine r_aload_n (pc := 59) E dX9_marked_59 rfl rfl ?_
      refine r_iload_n (pc := 60) E dX9_marked_60 rfl rfl ?_
      refine afterI (pc := 61) E (fun H locs ls hP hS hl => runV (As := [.int v1]) (rest := [.int (s2 65 v1.toNatClampNeg)]) E (c_X9_bareWorth X _ _ _  h) ok_63 kc_9.1 ci_X9_bareWorth q_1109 rfl rfl rfl rfl dX9_marked_61 hP hS hl) (fun r3 s3 h => ?_)
      refine r_goto (pc := 64) (tgt := 68) E dX9_marked_64 (by decide) ?_
      exact r_forget (le_n (le_n (le_n le_0))) (t_X9_marked_J68 E hr _ _ _ h)
  · have h := h.2 c3
    refine r_aload_n (pc := 45) E dX9_marked_45 rfl rfl ?_
    refine r_get (pc := 46) (j := 16) (v := .ref (xa X 69)) E ok_63 kc_9 rfl q_792 rfl dX9_marked_46 ?_
    refine r_iload_n (pc := 49) E dX9_marked_49 rfl rfl ?_
    refine r_iald (pc := 50) (n := 10) E ok_69 rfl h.1 dX9_marked_50 ?_
    have h := h.2
    refine r_goto (pc := 51) (tgt := 68) E dX9_marked_51 (by decide) ?_
    exact r_forget (le_n (le_n (le_n le_0))) (t_X9_marked_J68 E hr _ _ _ h)

def w_X9_marked_J17 (Q : Int32 → ST → Prop) (s0 : ST) (v1 : Int32) (v2 : Int32) : Prop := ((¬ v2 = 3 → (w_X9_marked_J28 Q s0 v1 v2)) ∧ (v2 = 3 → (w_X9_began s0 22 (fun s4 => w_X9_marked_J28 Q s4 v1 v2))))
set_option maxRecDepth 100000 in
set_option maxHeartbeats 4000000 in
theorem t_X9_marked_J17 {p : Program} {l : Launch} {e : Env} {s : State} {m : MethodId} {args : Array Value} {below : List Frame} {meth : Method} {c : Code} {X : XT} (E : Ev p rm_X9_marked s m args meth c X (xA X) 3 0 0 cX9_marked RX9) (hr : meth.sig.returnType = (some .int)) {Q : Int32 → ST → Prop} (s0 : ST) (v1 : Int32) (v2 : Int32) (h : w_X9_marked_J17 Q s0 v1 v2) : G p l e rm_X9_marked s m args below meth c X (xA X) 3 0 0 (MQ below (va_Qi Q (Bw X) (xA X)) args s 0 0 (xA X)) s0 17 [some (.ref (xa X 63)), some (.int v1), some (.int v2)] [] := by
  refine r_iload_n (pc := 17) E dX9_marked_17 rfl rfl ?_
  refine r_iconst (pc := 18) (v := 3) E dX9_marked_18 (by decide) ?_
  refine r_icmp_ne (pc := 19) (tgt := 28) E dX9_marked_19 (by decide) (fun c2 => ?_) (fun c2 => ?_)
  · have h := h.1 c2
    exact r_forget (le_s (le_s (le_s le_0))) (t_X9_marked_J28 E hr _ _ _ h)
  · have h := h.2 c2
    refine r_aload_n (pc := 22) E dX9_marked_22 rfl rfl ?_
    refine r_bipush (pc := 23) (v := 22) E dX9_marked_23 (by decide) ?_
    refine afterV (pc := 25) E (fun H locs ls hP hS hl => runV (As := [.int 22]) (rest := []) E (c_X9_began X _ _ _  h) ok_63 kc_9.1 ci_X9_began q_1113 rfl rfl rfl rfl dX9_marked_25 hP hS hl) (fun s4 h => ?_)
    exact r_forget (le_s (le_s (le_s le_0))) (t_X9_marked_J28 E hr _ _ _ h)

def w_X9_marked (s0 : ST) (a1 : Int32) (Q : Int32 → ST → Prop) : Prop := w_X9_kindOf s0 a1 (fun r1 s1 => ((¬ r1 = 2 → (w_X9_marked_J17 Q s1 a1 r1)) ∧ (r1 = 2 → (w_X9_began s1 21 (fun s5 => w_X9_marked_J17 Q s5 a1 r1)))))
set_option maxRecDepth 100000 in
set_option maxHeartbeats 4000000 in
theorem c_X9_marked {l : Launch} (X : XT) (s0 : ST) (a1 : Int32) (Q : Int32 → ST → Prop) (h : w_X9_marked s0 a1 Q) : MetI l yX9_marked (wS yX9_marked cX9_marked 3 (some .int)) rm_X9_marked X s0 [.ref (xa X 63), .int a1] Q := by
  refine metG (own := RX9) (k := 1) (lv0 := [some (.ref (xa X 63)), some (.int a1), none]) (by decide) rfl rfl rfl ?_
  intro p e s m args below meth c E hr
  refine r_aload_n (pc := 0) E dX9_marked_0 rfl rfl ?_
  refine r_iload_n (pc := 1) E dX9_marked_1 rfl rfl ?_
  refine afterI (pc := 2) E (fun H locs ls hP hS hl => runV (As := [.int a1]) (rest := []) E (c_X9_kindOf X _ _ _  h) ok_63 kc_9.1 ci_X9_kindOf q_1092 rfl rfl rfl rfl dX9_marked_2 hP hS hl) (fun r1 s1 h => ?_)
  refine r_istore_n (pc := 5) (lv' := [some (.ref (xa X 63)), some (.int a1), some (.int r1)]) E dX9_marked_5 rfl rfl rfl rfl ?_
  refine r_iload_n (pc := 6) E dX9_marked_6 rfl rfl ?_
  refine r_iconst (pc := 7) (v := 2) E dX9_marked_7 (by decide) ?_
  refine r_icmp_ne (pc := 8) (tgt := 17) E dX9_marked_8 (by decide) (fun c1 => ?_) (fun c1 => ?_)
  · have h := h.1 c1
    exact r_forget (le_s (le_s (le_s le_0))) (t_X9_marked_J17 E hr _ _ _ h)
  · have h := h.2 c1
    refine r_aload_n (pc := 11) E dX9_marked_11 rfl rfl ?_
    refine r_bipush (pc := 12) (v := 21) E dX9_marked_12 (by decide) ?_
    refine afterV (pc := 14) E (fun H locs ls hP hS hl => runV (As := [.int 21]) (rest := []) E (c_X9_began X _ _ _  h) ok_63 kc_9.1 ci_X9_began q_1113 rfl rfl rfl rfl dX9_marked_14 hP hS hl) (fun s5 h => ?_)
    exact r_forget (le_s (le_s (le_s le_0))) (t_X9_marked_J17 E hr _ _ _ h)

/-! ChairFrontModel.worth -/
def rm_X9_worth : Room := { frames := 3, cells := 0, slots := 0, locals := 64 }
theorem ci_X9_worth : CI yX9_worth RX9 cX9_worth 4 (some .int) 1 := ⟨q_1107, q_50, q_65, q_1108, by decide +kernel⟩
def w_X9_worth_J72 (Q : Int32 → ST → Prop) (s0 : ST) (v1 : Int32) (v2 : Int32) (t0 : Int32) (t1 : Int32) : Prop := ∀ x1 : Int32, x1 = (t0 + t1) → (((¬ v2 = 2 → (Q x1 s0)) ∧ (v2 = 2 → (w_X9_marked s0 v1 (fun r5 s5 => Q (x1 + r5) s5)))))
set_option maxRecDepth 100000 in
set_option maxHeartbeats 4000000 in
theorem t_X9_worth_J72 {p : Program} {l : Launch} {e : Env} {s : State} {m : MethodId} {args : Array Value} {below : List Frame} {meth : Method} {c : Code} {X : XT} (E : Ev p rm_X9_worth s m args meth c X (xA X) 4 0 0 cX9_worth RX9) (hr : meth.sig.returnType = (some .int)) {Q : Int32 → ST → Prop} (s0 : ST) (v1 : Int32) (v2 : Int32) (t0 : Int32) (t1 : Int32) (h : w_X9_worth_J72 Q s0 v1 v2 t0 t1) : G p l e rm_X9_worth s m args below meth c X (xA X) 4 0 0 (MQ below (va_Qi Q (Bw X) (xA X)) args s 0 0 (xA X)) s0 72 [some (.ref (xa X 63)), some (.int v1), some (.int v2), none] [.int t1, .int t0] := by
  refine r_iadd (pc := 72) E dX9_worth_72 ?_
  refine r_topi (fun x1 ex1 => ?_)
  have h := h x1 ex1
  refine r_istore_n (pc := 73) (lv' := [some (.ref (xa X 63)), some (.int v1), some (.int v2), some (.int x1)]) E dX9_worth_73 rfl rfl rfl rfl ?_
  refine r_iload_n (pc := 74) E dX9_worth_74 rfl rfl ?_
  refine r_iconst (pc := 75) (v := 2) E dX9_worth_75 (by decide) ?_
  refine r_icmp_ne (pc := 76) (tgt := 89) E dX9_worth_76 (by decide) (fun c5 => ?_) (fun c5 => ?_)
  · have h := h.1 c5
    refine r_iload_n (pc := 89) E dX9_worth_89 rfl rfl ?_
    exact r_iret (pc := 90) E hr dX9_worth_90 h
  · have h := h.2 c5
    refine r_iload_n (pc := 79) E dX9_worth_79 rfl rfl ?_
    refine r_aload_n (pc := 80) E dX9_worth_80 rfl rfl ?_
    refine r_iload_n (pc := 81) E dX9_worth_81 rfl rfl ?_
    refine afterI (pc := 82) E (fun H locs ls hP hS hl => runV (As := [.int v1]) (rest := [.int x1]) E (c_X9_marked X _ _ _  h) ok_63 kc_9.1 ci_X9_marked q_1117 rfl rfl rfl rfl dX9_worth_82 hP hS hl) (fun r5 s5 h => ?_)
    refine r_iadd (pc := 85) E dX9_worth_85 ?_
    refine r_goto (pc := 86) (tgt := 90) E dX9_worth_86 (by decide) ?_
    exact r_iret (pc := 90) E hr dX9_worth_90 h

def w_X9_worth_J44 (Q : Int32 → ST → Prop) (s0 : ST) (v1 : Int32) (v2 : Int32) : Prop := w_X9_began s0 10 (fun s3 => w_X9_standing s3 v1 (fun r4 s4 => ((v2 = 2 → (w_X9_worth_J72 Q s4 v1 v2 r4 1000)) ∧ (¬ (v2 = 2) → (((¬ v2 = 1 → (w_X9_worth_J72 Q s4 v1 v2 r4 0)) ∧ (v2 = 1 → (w_X9_worth_J72 Q s4 v1 v2 r4 1000))))))))
set_option maxRecDepth 100000 in
set_option maxHeartbeats 4000000 in
theorem t_X9_worth_J44 {p : Program} {l : Launch} {e : Env} {s : State} {m : MethodId} {args : Array Value} {below : List Frame} {meth : Method} {c : Code} {X : XT} (E : Ev p rm_X9_worth s m args meth c X (xA X) 4 0 0 cX9_worth RX9) (hr : meth.sig.returnType = (some .int)) {Q : Int32 → ST → Prop} (s0 : ST) (v1 : Int32) (v2 : Int32) (h : w_X9_worth_J44 Q s0 v1 v2) : G p l e rm_X9_worth s m args below meth c X (xA X) 4 0 0 (MQ below (va_Qi Q (Bw X) (xA X)) args s 0 0 (xA X)) s0 44 [some (.ref (xa X 63)), some (.int v1), some (.int v2), none] [] := by
  refine r_aload_n (pc := 44) E dX9_worth_44 rfl rfl ?_
  refine r_bipush (pc := 45) (v := 10) E dX9_worth_45 (by decide) ?_
  refine afterV (pc := 47) E (fun H locs ls hP hS hl => runV (As := [.int 10]) (rest := []) E (c_X9_began X _ _ _  h) ok_63 kc_9.1 ci_X9_began q_1113 rfl rfl rfl rfl dX9_worth_47 hP hS hl) (fun s3 h => ?_)
  refine r_aload_n (pc := 50) E dX9_worth_50 rfl rfl ?_
  refine r_iload_n (pc := 51) E dX9_worth_51 rfl rfl ?_
  refine afterI (pc := 52) E (fun H locs ls hP hS hl => runV (As := [.int v1]) (rest := []) E (c_X9_standing X _ _ _  h) ok_63 kc_9.1 ci_X9_standing q_964 rfl rfl rfl rfl dX9_worth_52 hP hS hl) (fun r4 s4 h => ?_)
  refine r_iload_n (pc := 55) E dX9_worth_55 rfl rfl ?_
  refine r_iconst (pc := 56) (v := 2) E dX9_worth_56 (by decide) ?_
  refine r_icmp_eq (pc := 57) (tgt := 65) E dX9_worth_57 (by decide) (fun c4 => ?_) (fun c4 => ?_)
  · have h := h.1 c4
    refine r_sipush (pc := 65) (v := 1000) E dX9_worth_65 (by decide) ?_
    refine r_goto (pc := 68) (tgt := 72) E dX9_worth_68 (by decide) ?_
    exact r_forget (le_s (le_s (le_s (le_n le_0)))) (t_X9_worth_J72 E hr _ _ _ _ _ h)
  · have h := h.2 c4
    refine r_iload_n (pc := 60) E dX9_worth_60 rfl rfl ?_
    refine r_iconst (pc := 61) (v := 1) E dX9_worth_61 (by decide) ?_
    refine r_icmp_ne (pc := 62) (tgt := 71) E dX9_worth_62 (by decide) (fun c6 => ?_) (fun c6 => ?_)
    · have h := h.1 c6
      refine r_iconst (pc := 71) (v := 0) E dX9_worth_71 (by decide) ?_
      exact r_forget (le_s (le_s (le_s (le_n le_0)))) (t_X9_worth_J72 E hr _ _ _ _ _ h)
    · have h := h.2 c6
      refine r_sipush (pc := 65) (v := 1000) E dX9_worth_65 (by decide) ?_
      refine r_goto (pc := 68) (tgt := 72) E dX9_worth_68 (by decide) ?_
      exact r_forget (le_s (le_s (le_s (le_n le_0)))) (t_X9_worth_J72 E hr _ _ _ _ _ h)

def w_X9_worth_J28 (Q : Int32 → ST → Prop) (s0 : ST) (v1 : Int32) (v2 : Int32) : Prop := ((v2 = 2 → (w_X9_began s0 11 (fun s2 => w_X9_worth_J44 Q s2 v1 v2))) ∧ (¬ (v2 = 2) → (((¬ v2 = 1 → (w_X9_worth_J44 Q s0 v1 v2)) ∧ (v2 = 1 → (w_X9_began s0 11 (fun s6 => w_X9_worth_J44 Q s6 v1 v2)))))))
set_option maxRecDepth 100000 in
set_option maxHeartbeats 4000000 in
theorem t_X9_worth_J28 {p : Program} {l : Launch} {e : Env} {s : State} {m : MethodId} {args : Array Value} {below : List Frame} {meth : Method} {c : Code} {X : XT} (E : Ev p rm_X9_worth s m args meth c X (xA X) 4 0 0 cX9_worth RX9) (hr : meth.sig.returnType = (some .int)) {Q : Int32 → ST → Prop} (s0 : ST) (v1 : Int32) (v2 : Int32) (h : w_X9_worth_J28 Q s0 v1 v2) : G p l e rm_X9_worth s m args below meth c X (xA X) 4 0 0 (MQ below (va_Qi Q (Bw X) (xA X)) args s 0 0 (xA X)) s0 28 [some (.ref (xa X 63)), some (.int v1), some (.int v2), none] [] := by
  refine r_iload_n (pc := 28) E dX9_worth_28 rfl rfl ?_
  refine r_iconst (pc := 29) (v := 2) E dX9_worth_29 (by decide) ?_
  refine r_icmp_eq (pc := 30) (tgt := 38) E dX9_worth_30 (by decide) (fun c3 => ?_) (fun c3 => ?_)
  · have h := h.1 c3
    refine r_aload_n (pc := 38) E dX9_worth_38 rfl rfl ?_
    refine r_bipush (pc := 39) (v := 11) E dX9_worth_39 (by decide) ?_
    refine afterV (pc := 41) E (fun H locs ls hP hS hl => runV (As := [.int 11]) (rest := []) E (c_X9_began X _ _ _  h) ok_63 kc_9.1 ci_X9_began q_1113 rfl rfl rfl rfl dX9_worth_41 hP hS hl) (fun s2 h => ?_)
    exact r_forget (le_s (le_s (le_s (le_n le_0)))) (t_X9_worth_J44 E hr _ _ _ h)
  · have h := h.2 c3
    refine r_iload_n (pc := 33) E dX9_worth_33 rfl rfl ?_
    refine r_iconst (pc := 34) (v := 1) E dX9_worth_34 (by decide) ?_
    refine r_icmp_ne (pc := 35) (tgt := 44) E dX9_worth_35 (by decide) (fun c7 => ?_) (fun c7 => ?_)
    · have h := h.1 c7
      exact r_forget (le_s (le_s (le_s (le_n le_0)))) (t_X9_worth_J44 E hr _ _ _ h)
    · have h := h.2 c7
      refine r_aload_n (pc := 38) E dX9_worth_38 rfl rfl ?_
      refine r_bipush (pc := 39) (v := 11) E dX9_worth_39 (by decide) ?_
      refine afterV (pc := 41) E (fun H locs ls hP hS hl => runV (As := [.int 11]) (rest := []) E (c_X9_began X _ _ _  h) ok_63 kc_9.1 ci_X9_began q_1113 rfl rfl rfl rfl dX9_worth_41 hP hS hl) (fun s6 h => ?_)
      exact r_forget (le_s (le_s (le_s (le_n le_0)))) (t_X9_worth_J44 E hr _ _ _ h)

def w_X9_worth (s0 : ST) (a1 : Int32) (Q : Int32 → ST → Prop) : Prop := w_X9_kindOf s0 a1 (fun r1 s1 => ((¬ r1 = 3 → (((¬ r1 = 2 → (w_X9_worth_J28 Q s1 a1 r1)) ∧ (r1 = 2 → (w_X9_began s1 12 (fun s7 => w_X9_worth_J28 Q s7 a1 r1)))))) ∧ (r1 = 3 → (w_X9_bareWorth s1 a1 (fun r8 s8 => Q r8 s8)))))
set_option maxRecDepth 100000 in
set_option maxHeartbeats 4000000 in
theorem c_X9_worth {l : Launch} (X : XT) (s0 : ST) (a1 : Int32) (Q : Int32 → ST → Prop) (h : w_X9_worth s0 a1 Q) : MetI l yX9_worth (wS yX9_worth cX9_worth 4 (some .int)) rm_X9_worth X s0 [.ref (xa X 63), .int a1] Q := by
  refine metG (own := RX9) (k := 2) (lv0 := [some (.ref (xa X 63)), some (.int a1), none, none]) (by decide) rfl rfl rfl ?_
  intro p e s m args below meth c E hr
  refine r_aload_n (pc := 0) E dX9_worth_0 rfl rfl ?_
  refine r_iload_n (pc := 1) E dX9_worth_1 rfl rfl ?_
  refine afterI (pc := 2) E (fun H locs ls hP hS hl => runV (As := [.int a1]) (rest := []) E (c_X9_kindOf X _ _ _  h) ok_63 kc_9.1 ci_X9_kindOf q_1092 rfl rfl rfl rfl dX9_worth_2 hP hS hl) (fun r1 s1 h => ?_)
  refine r_istore_n (pc := 5) (lv' := [some (.ref (xa X 63)), some (.int a1), some (.int r1), none]) E dX9_worth_5 rfl rfl rfl rfl ?_
  refine r_iload_n (pc := 6) E dX9_worth_6 rfl rfl ?_
  refine r_iconst (pc := 7) (v := 3) E dX9_worth_7 (by decide) ?_
  refine r_icmp_ne (pc := 8) (tgt := 17) E dX9_worth_8 (by decide) (fun c1 => ?_) (fun c1 => ?_)
  · have h := h.1 c1
    refine r_iload_n (pc := 17) E dX9_worth_17 rfl rfl ?_
    refine r_iconst (pc := 18) (v := 2) E dX9_worth_18 (by decide) ?_
    refine r_icmp_ne (pc := 19) (tgt := 28) E dX9_worth_19 (by decide) (fun c2 => ?_) (fun c2 => ?_)
    · have h := h.1 c2
      exact r_forget (le_s (le_s (le_s (le_n le_0)))) (t_X9_worth_J28 E hr _ _ _ h)
    · have h := h.2 c2
      refine r_aload_n (pc := 22) E dX9_worth_22 rfl rfl ?_
      refine r_bipush (pc := 23) (v := 12) E dX9_worth_23 (by decide) ?_
      refine afterV (pc := 25) E (fun H locs ls hP hS hl => runV (As := [.int 12]) (rest := []) E (c_X9_began X _ _ _  h) ok_63 kc_9.1 ci_X9_began q_1113 rfl rfl rfl rfl dX9_worth_25 hP hS hl) (fun s7 h => ?_)
      exact r_forget (le_s (le_s (le_s (le_n le_0)))) (t_X9_worth_J28 E hr _ _ _ h)
  · have h := h.2 c1
    refine r_aload_n (pc := 11) E dX9_worth_11 rfl rfl ?_
    refine r_iload_n (pc := 12) E dX9_worth_12 rfl rfl ?_
    refine afterI (pc := 13) E (fun H locs ls hP hS hl => runV (As := [.int a1]) (rest := []) E (c_X9_bareWorth X _ _ _  h) ok_63 kc_9.1 ci_X9_bareWorth q_1109 rfl rfl rfl rfl dX9_worth_13 hP hS hl) (fun r8 s8 h => ?_)
    exact r_iret (pc := 16) E hr dX9_worth_16 h

/-! ChairFrontModel.ask -/
def rm_X9_ask : Room := { frames := 4, cells := 0, slots := 0, locals := 87 }
theorem ci_X9_ask : CI yX9_ask RX9 cX9_ask 3 (some .int) 2 := ⟨q_1102, q_1103, q_65, q_1104, by decide +kernel⟩
def w_X9_ask (s0 : ST) (a1 : Int32) (a2 : Int32) (Q : Int32 → ST → Prop) : Prop := ∀ s1 : ST, s1 = up s0 63 0 0 → (w_X9_isStretch s1 a1 (fun r1 s2 => ((r1 = 0 → (Q (-1000001) s2)) ∧ (¬ (r1 = 0) → (w_X9_in s2 ((a2 : Int32).toInt64) 0 1 (fun r2 s3 => ((¬ r2 = 0 → (∀ s4 : ST, s4 = up s3 63 54 0 → (((¬ a2 = 0 → (w_X9_marked s4 a1 (fun r3 s5 => Q r3 s5))) ∧ (a2 = 0 → (w_X9_worth s4 a1 (fun r4 s6 => Q r4 s6))))))) ∧ (r2 = 0 → (Q (-1000001) s3)))))))))
set_option maxRecDepth 100000 in
set_option maxHeartbeats 4000000 in
theorem c_X9_ask {l : Launch} (X : XT) (s0 : ST) (a1 : Int32) (a2 : Int32) (Q : Int32 → ST → Prop) (h : w_X9_ask s0 a1 a2 Q) : MetI l yX9_ask (wS yX9_ask cX9_ask 3 (some .int)) rm_X9_ask X s0 [.ref (xa X 63), .int a1, .int a2] Q := by
  refine metG (own := RX9) (k := 0) (lv0 := [some (.ref (xa X 63)), some (.int a1), some (.int a2)]) (by decide) rfl rfl rfl ?_
  intro p e s m args below meth c E hr
  refine r_aload_n (pc := 0) E dX9_ask_0 rfl rfl ?_
  refine r_iconst (pc := 1) (v := 0) E dX9_ask_1 (by decide) ?_
  refine r_put (pc := 2) (j := 0) E ok_63 kc_9 rfl q_776 rfl rfl rfl dX9_ask_2 (fun s1 es1 => ?_)
  have h := h s1 es1
  refine r_aload_n (pc := 5) E dX9_ask_5 rfl rfl ?_
  refine r_iload_n (pc := 6) E dX9_ask_6 rfl rfl ?_
  refine afterI (pc := 7) E (fun H locs ls hP hS hl => runV (As := [.int a1]) (rest := []) E (c_X9_isStretch X _ _ _  h) ok_63 kc_9.1 ci_X9_isStretch q_958 rfl rfl rfl rfl dX9_ask_7 hP hS hl) (fun r1 s2 h => ?_)
  refine r_if_eq (pc := 10) (tgt := 23) E dX9_ask_10 (by decide) (fun c1 => ?_) (fun c1 => ?_)
  · have h := h.1 c1
    refine r_ldc (pc := 23) (v := (-1000001)) E q_951 dX9_ask_23 ?_
    exact r_iret (pc := 25) E hr dX9_ask_25 h
  · have h := h.2 c1
    refine r_iload_n (pc := 13) E dX9_ask_13 rfl rfl ?_
    refine r_i2l (pc := 14) E dX9_ask_14 ?_
    refine r_lconst (pc := 15) (v := 0) E dX9_ask_15 rfl ?_
    refine r_lconst (pc := 16) (v := 1) E dX9_ask_16 rfl ?_
    refine afterI (pc := 17) E (fun H locs ls hP hS hl => runS (As := [.long ((a2 : Int32).toInt64), .long 0, .long 1]) (rest := []) E (c_X9_in X _ _ _ _ _  h) cs_X9_in q_947 rfl rfl rfl rfl dX9_ask_17 hP hS hl) (fun r2 s3 h => ?_)
    refine r_if_ne (pc := 20) (tgt := 26) E dX9_ask_20 (by decide) (fun c2 => ?_) (fun c2 => ?_)
    · have h := h.1 c2
      refine r_aload_n (pc := 26) E dX9_ask_26 rfl rfl ?_
      refine r_iconst (pc := 27) (v := 0) E dX9_ask_27 (by decide) ?_
      refine r_put (pc := 28) (j := 54) E ok_63 kc_9 rfl q_830 rfl rfl rfl dX9_ask_28 (fun s4 es4 => ?_)
      have h := h s4 es4
      refine r_iload_n (pc := 31) E dX9_ask_31 rfl rfl ?_
      refine r_if_ne (pc := 32) (tgt := 43) E dX9_ask_32 (by decide) (fun c3 => ?_) (fun c3 => ?_)
      · have h := h.1 c3
        refine r_aload_n (pc := 43) E dX9_ask_43 rfl rfl ?_
        refine r_iload_n (pc := 44) E dX9_ask_44 rfl rfl ?_
        refine afterI (pc := 45) E (fun H locs ls hP hS hl => runV (As := [.int a1]) (rest := []) E (c_X9_marked X _ _ _  h) ok_63 kc_9.1 ci_X9_marked q_1117 rfl rfl rfl rfl dX9_ask_45 hP hS hl) (fun r3 s5 h => ?_)
        exact r_iret (pc := 48) E hr dX9_ask_48 h
      · have h := h.2 c3
        refine r_aload_n (pc := 35) E dX9_ask_35 rfl rfl ?_
        refine r_iload_n (pc := 36) E dX9_ask_36 rfl rfl ?_
        refine afterI (pc := 37) E (fun H locs ls hP hS hl => runV (As := [.int a1]) (rest := []) E (c_X9_worth X _ _ _  h) ok_63 kc_9.1 ci_X9_worth q_1105 rfl rfl rfl rfl dX9_ask_37 hP hS hl) (fun r4 s6 h => ?_)
        refine r_goto (pc := 40) (tgt := 48) E dX9_ask_40 (by decide) ?_
        exact r_iret (pc := 48) E hr dX9_ask_48 h
    · have h := h.2 c2
      refine r_ldc (pc := 23) (v := (-1000001)) E q_951 dX9_ask_23 ?_
      exact r_iret (pc := 25) E hr dX9_ask_25 h

/-! ChairFrontModel.trace -/
def rm_X9_trace : Room := { frames := 1, cells := 0, slots := 0, locals := 25 }
theorem ci_X9_trace : CI yX9_trace RX9 cX9_trace 2 (some .int) 1 := ⟨q_1122, q_1123, q_65, q_1124, by decide +kernel⟩
def w_X9_trace (s0 : ST) (a1 : Int32) (Q : Int32 → ST → Prop) : Prop := ∀ s1 : ST, s1 = up s0 63 0 0 → (w_X9_in s1 ((a1 : Int32).toInt64) 0 ((((s1 63 54) - 1) : Int32).toInt64) (fun r1 s2 => ((r1 = 0 → (Q (-1000000) s2)) ∧ (¬ (r1 = 0) → (vp_in a1 16 ∧ (Q (s2 89 a1.toNatClampNeg) s2))))))
set_option maxRecDepth 100000 in
set_option maxHeartbeats 4000000 in
theorem c_X9_trace {l : Launch} (X : XT) (s0 : ST) (a1 : Int32) (Q : Int32 → ST → Prop) (h : w_X9_trace s0 a1 Q) : MetI l yX9_trace (wS yX9_trace cX9_trace 2 (some .int)) rm_X9_trace X s0 [.ref (xa X 63), .int a1] Q := by
  refine metG (own := RX9) (k := 0) (lv0 := [some (.ref (xa X 63)), some (.int a1)]) (by decide) rfl rfl rfl ?_
  intro p e s m args below meth c E hr
  refine r_aload_n (pc := 0) E dX9_trace_0 rfl rfl ?_
  refine r_iconst (pc := 1) (v := 0) E dX9_trace_1 (by decide) ?_
  refine r_put (pc := 2) (j := 0) E ok_63 kc_9 rfl q_776 rfl rfl rfl dX9_trace_2 (fun s1 es1 => ?_)
  have h := h s1 es1
  refine r_iload_n (pc := 5) E dX9_trace_5 rfl rfl ?_
  refine r_i2l (pc := 6) E dX9_trace_6 ?_
  refine r_lconst (pc := 7) (v := 0) E dX9_trace_7 rfl ?_
  refine r_aload_n (pc := 8) E dX9_trace_8 rfl rfl ?_
  refine r_get (pc := 9) (j := 54) E ok_63 kc_9 rfl q_830 (svI rfl) dX9_trace_9 ?_
  refine r_iconst (pc := 12) (v := 1) E dX9_trace_12 (by decide) ?_
  refine r_isub (pc := 13) E dX9_trace_13 ?_
  refine r_i2l (pc := 14) E dX9_trace_14 ?_
  refine afterI (pc := 15) E (fun H locs ls hP hS hl => runS (As := [.long ((a1 : Int32).toInt64), .long 0, .long ((((s1 63 54) - 1) : Int32).toInt64)]) (rest := []) E (c_X9_in X _ _ _ _ _  h) cs_X9_in q_947 rfl rfl rfl rfl dX9_trace_15 hP hS hl) (fun r1 s2 h => ?_)
  refine r_if_eq (pc := 18) (tgt := 30) E dX9_trace_18 (by decide) (fun c1 => ?_) (fun c1 => ?_)
  · have h := h.1 c1
    refine r_ldc (pc := 30) (v := (-1000000)) E q_957 dX9_trace_30 ?_
    exact r_iret (pc := 32) E hr dX9_trace_32 h
  · have h := h.2 c1
    refine r_aload_n (pc := 21) E dX9_trace_21 rfl rfl ?_
    refine r_get (pc := 22) (j := 53) (v := .ref (xa X 89)) E ok_63 kc_9 rfl q_829 rfl dX9_trace_22 ?_
    refine r_iload_n (pc := 25) E dX9_trace_25 rfl rfl ?_
    refine r_iald (pc := 26) (n := 16) E ok_89 rfl h.1 dX9_trace_26 ?_
    have h := h.2
    refine r_goto (pc := 27) (tgt := 32) E dX9_trace_27 (by decide) ?_
    exact r_iret (pc := 32) E hr dX9_trace_32 h

/-! ChairFrontModel.count -/
def rm_X9_count : Room := { frames := 1, cells := 0, slots := 0, locals := 21 }
theorem ci_X9_count : CI yX9_count RX9 cX9_count 4 (some .int) 1 := ⟨q_1126, q_1127, q_65, q_1128, by decide +kernel⟩
def w_X9_count_L74 (K : ST → Int32 → Prop) (Q : Int32 → ST → Prop) : Nat → ST → Int32 → Int32 → Prop
  | 0, _, _, _ => False
  | n + 1, s0, v2, v3 => (((s0 63 10) ≤ v3 → (K s0 v2)) ∧ (¬ ((s0 63 10) ≤ v3) → (w_X9_standing s0 v3 (fun r1 s2 => ∀ x1 : Int32, x1 = (v2 + r1) → (∀ x2 : Int32, x2 = v3 + 1 → (w_X9_count_L74 K Q n s2 x1 x2))))))
set_option maxRecDepth 100000 in
set_option maxHeartbeats 4000000 in
theorem t_X9_count_L74 {p : Program} {l : Launch} {e : Env} {s : State} {m : MethodId} {args : Array Value} {below : List Frame} {meth : Method} {c : Code} {X : XT} (E : Ev p rm_X9_count s m args meth c X (xA X) 4 0 0 cX9_count RX9) (hr : meth.sig.returnType = (some .int)) {K : ST → Int32 → Prop} {Q : Int32 → ST → Prop} (hK : ∀ (s0 : ST) (v2 : Int32), K s0 v2 → G p l e rm_X9_count s m args below meth c X (xA X) 4 0 0 (MQ below (va_Qi Q (Bw X) (xA X)) args s 0 0 (xA X)) s0 96 [none, none, some (.int v2), none] []) : ∀ (n : Nat) (s0 : ST) (v2 : Int32) (v3 : Int32), w_X9_count_L74 K Q n s0 v2 v3 → G p l e rm_X9_count s m args below meth c X (xA X) 4 0 0 (MQ below (va_Qi Q (Bw X) (xA X)) args s 0 0 (xA X)) s0 74 [some (.ref (xa X 63)), none, some (.int v2), some (.int v3)] [] := by
  intro n
  induction n with
  | zero => intro s0 v2 v3 h; exact h.elim
  | succ n ih =>
    intro s0 v2 v3 h
    refine r_iload_n (pc := 74) E dX9_count_74 rfl rfl ?_
    refine r_aload_n (pc := 75) E dX9_count_75 rfl rfl ?_
    refine r_get (pc := 76) (j := 10) E ok_63 kc_9 rfl q_786 (svI rfl) dX9_count_76 ?_
    refine r_icmp_ge (pc := 79) (tgt := 96) E dX9_count_79 (by decide) (fun c4 => ?_) (fun c4 => ?_)
    · have h := h.1 c4
      exact r_forget (le_n (le_n (le_s (le_n le_0)))) (hK _ _ h)
    · have h := h.2 c4
      refine r_iload_n (pc := 82) E dX9_count_82 rfl rfl ?_
      refine r_aload_n (pc := 83) E dX9_count_83 rfl rfl ?_
      refine r_iload_n (pc := 84) E dX9_count_84 rfl rfl ?_
      refine afterI (pc := 85) E (fun H locs ls hP hS hl => runV (As := [.int v3]) (rest := [.int v2]) E (c_X9_standing X _ _ _  h) ok_63 kc_9.1 ci_X9_standing q_964 rfl rfl rfl rfl dX9_count_85 hP hS hl) (fun r1 s2 h => ?_)
      refine r_iadd (pc := 88) E dX9_count_88 ?_
      refine r_topi (fun x1 ex1 => ?_)
      have h := h x1 ex1
      refine r_istore_n (pc := 89) (lv' := [some (.ref (xa X 63)), none, some (.int x1), some (.int v3)]) E dX9_count_89 rfl rfl rfl rfl ?_
      obtain ⟨x2, ex2⟩ : ∃ z : Int32, z = v3 + 1 := ⟨_, rfl⟩
      have h := h x2 ex2
      refine r_iinc (pc := 90) (v := 1) (lv' := [some (.ref (xa X 63)), none, some (.int x1), some (.int x2)]) E dX9_count_90 rfl (by decide) rfl rfl (by rw [ex2]; rfl) ?_
      refine r_goto (pc := 93) (tgt := 74) E dX9_count_93 (by decide) ?_
      exact r_forget (le_s (le_n (le_s (le_s le_0)))) (ih _ _ _ h)

def w_X9_count (s0 : ST) (a1 : Int32) (Q : Int32 → ST → Prop) : Prop := ∀ s1 : ST, s1 = up s0 63 0 0 → (((a1 = 0 → (Q (s1 63 10) s1)) ∧ (¬ a1 = 0 → ((a1 = 1 → (Q (s1 63 1) s1)) ∧ (¬ a1 = 1 → ((a1 = 2 → (∃ n1 : Nat, w_X9_count_L74 (fun (s3 : ST) (x3 : Int32) => Q x3 s3) Q n1 s1 0 0)) ∧ (¬ a1 = 2 → ((a1 = 3 → (Q (s1 63 2) s1)) ∧ (¬ a1 = 3 → ((a1 = 4 → (Q (s1 63 3) s1)) ∧ (¬ a1 = 4 → ((a1 = 5 → (Q (s1 63 18) s1)) ∧ (¬ a1 = 5 → ((a1 = 6 → (Q (s1 63 19) s1)) ∧ (¬ a1 = 6 → ((a1 = 7 → (Q (s1 63 7) s1)) ∧ (¬ a1 = 7 → ((a1 = 8 → (Q (s1 63 8) s1)) ∧ (¬ a1 = 8 → ((a1 = 9 → (Q (s1 63 9) s1)) ∧ (¬ a1 = 9 → (Q (-1000001) s1))))))))))))))))))))))
set_option maxRecDepth 100000 in
set_option maxHeartbeats 4000000 in
theorem c_X9_count {l : Launch} (X : XT) (s0 : ST) (a1 : Int32) (Q : Int32 → ST → Prop) (h : w_X9_count s0 a1 Q) : MetI l yX9_count (wS yX9_count cX9_count 4 (some .int)) rm_X9_count X s0 [.ref (xa X 63), .int a1] Q := by
  refine metG (own := RX9) (k := 2) (lv0 := [some (.ref (xa X 63)), some (.int a1), none, none]) (by decide) rfl rfl rfl ?_
  intro p e s m args below meth c E hr
  refine r_aload_n (pc := 0) E dX9_count_0 rfl rfl ?_
  refine r_iconst (pc := 1) (v := 0) E dX9_count_1 (by decide) ?_
  refine r_put (pc := 2) (j := 0) E ok_63 kc_9 rfl q_776 rfl rfl rfl dX9_count_2 (fun s1 es1 => ?_)
  have h := h s1 es1
  refine r_iload_n (pc := 5) E dX9_count_5 rfl rfl ?_
  by_cases c1 : a1 = 0
  · have h := h.1 c1
    refine r_tabIn (pc := 6) (tgt := 60) (off := 54) (v := 0) E c1 dX9_count_6 (by decide) (by decide) (by decide) (by decide) ?_
    refine r_aload_n (pc := 60) E dX9_count_60 rfl rfl ?_
    refine r_get (pc := 61) (j := 10) E ok_63 kc_9 rfl q_786 (svI rfl) dX9_count_61 ?_
    exact r_iret (pc := 64) E hr dX9_count_64 h
  have h := h.2 c1
  by_cases c2 : a1 = 1
  · have h := h.1 c2
    refine r_tabIn (pc := 6) (tgt := 65) (off := 59) (v := 1) E c2 dX9_count_6 (by decide) (by decide) (by decide) (by decide) ?_
    refine r_aload_n (pc := 65) E dX9_count_65 rfl rfl ?_
    refine r_get (pc := 66) (j := 1) E ok_63 kc_9 rfl q_777 (svI rfl) dX9_count_66 ?_
    exact r_iret (pc := 69) E hr dX9_count_69 h
  have h := h.2 c2
  by_cases c3 : a1 = 2
  · have h := h.1 c3
    refine r_tabIn (pc := 6) (tgt := 70) (off := 64) (v := 2) E c3 dX9_count_6 (by decide) (by decide) (by decide) (by decide) ?_
    refine r_iconst (pc := 70) (v := 0) E dX9_count_70 (by decide) ?_
    refine r_istore_n (pc := 71) (lv' := [some (.ref (xa X 63)), some (.int a1), some (.int 0), none]) E dX9_count_71 rfl rfl rfl rfl ?_
    refine r_iconst (pc := 72) (v := 0) E dX9_count_72 (by decide) ?_
    refine r_istore_n (pc := 73) (lv' := [some (.ref (xa X 63)), some (.int a1), some (.int 0), some (.int 0)]) E dX9_count_73 rfl rfl rfl rfl ?_
    obtain ⟨n1, h⟩ := h
    refine r_forget (le_s (le_n (le_s (le_s le_0)))) (t_X9_count_L74 E hr ?_ n1 _ _ _ h)
    intro s3 x3 h
    refine r_iload_n (pc := 96) E dX9_count_96 rfl rfl ?_
    exact r_iret (pc := 97) E hr dX9_count_97 h
  have h := h.2 c3
  by_cases c5 : a1 = 3
  · have h := h.1 c5
    refine r_tabIn (pc := 6) (tgt := 98) (off := 92) (v := 3) E c5 dX9_count_6 (by decide) (by decide) (by decide) (by decide) ?_
    refine r_aload_n (pc := 98) E dX9_count_98 rfl rfl ?_
    refine r_get (pc := 99) (j := 2) E ok_63 kc_9 rfl q_778 (svI rfl) dX9_count_99 ?_
    exact r_iret (pc := 102) E hr dX9_count_102 h
  have h := h.2 c5
  by_cases c6 : a1 = 4
  · have h := h.1 c6
    refine r_tabIn (pc := 6) (tgt := 103) (off := 97) (v := 4) E c6 dX9_count_6 (by decide) (by decide) (by decide) (by decide) ?_
    refine r_aload_n (pc := 103) E dX9_count_103 rfl rfl ?_
    refine r_get (pc := 104) (j := 3) E ok_63 kc_9 rfl q_779 (svI rfl) dX9_count_104 ?_
    exact r_iret (pc := 107) E hr dX9_count_107 h
  have h := h.2 c6
  by_cases c7 : a1 = 5
  · have h := h.1 c7
    refine r_tabIn (pc := 6) (tgt := 108) (off := 102) (v := 5) E c7 dX9_count_6 (by decide) (by decide) (by decide) (by decide) ?_
    refine r_aload_n (pc := 108) E dX9_count_108 rfl rfl ?_
    refine r_get (pc := 109) (j := 18) E ok_63 kc_9 rfl q_794 (svI rfl) dX9_count_109 ?_
    exact r_iret (pc := 112) E hr dX9_count_112 h
  have h := h.2 c7
  by_cases c8 : a1 = 6
  · have h := h.1 c8
    refine r_tabIn (pc := 6) (tgt := 113) (off := 107) (v := 6) E c8 dX9_count_6 (by decide) (by decide) (by decide) (by decide) ?_
    refine r_aload_n (pc := 113) E dX9_count_113 rfl rfl ?_
    refine r_get (pc := 114) (j := 19) E ok_63 kc_9 rfl q_795 (svI rfl) dX9_count_114 ?_
    exact r_iret (pc := 117) E hr dX9_count_117 h
  have h := h.2 c8
  by_cases c9 : a1 = 7
  · have h := h.1 c9
    refine r_tabIn (pc := 6) (tgt := 118) (off := 112) (v := 7) E c9 dX9_count_6 (by decide) (by decide) (by decide) (by decide) ?_
    refine r_aload_n (pc := 118) E dX9_count_118 rfl rfl ?_
    refine r_get (pc := 119) (j := 7) E ok_63 kc_9 rfl q_783 (svI rfl) dX9_count_119 ?_
    exact r_iret (pc := 122) E hr dX9_count_122 h
  have h := h.2 c9
  by_cases c10 : a1 = 8
  · have h := h.1 c10
    refine r_tabIn (pc := 6) (tgt := 123) (off := 117) (v := 8) E c10 dX9_count_6 (by decide) (by decide) (by decide) (by decide) ?_
    refine r_aload_n (pc := 123) E dX9_count_123 rfl rfl ?_
    refine r_get (pc := 124) (j := 8) E ok_63 kc_9 rfl q_784 (svI rfl) dX9_count_124 ?_
    exact r_iret (pc := 127) E hr dX9_count_127 h
  have h := h.2 c10
  by_cases c11 : a1 = 9
  · have h := h.1 c11
    refine r_tabIn (pc := 6) (tgt := 128) (off := 122) (v := 9) E c11 dX9_count_6 (by decide) (by decide) (by decide) (by decide) ?_
    refine r_aload_n (pc := 128) E dX9_count_128 rfl rfl ?_
    refine r_get (pc := 129) (j := 9) E ok_63 kc_9 rfl q_785 (svI rfl) dX9_count_129 ?_
    exact r_iret (pc := 132) E hr dX9_count_132 h
  have h := h.2 c11
  refine r_tabOut (pc := 6) (tgt := 133) E 0 10 (by decide) (fun j hj => match j, hj with | 0, _ => c1 | 1, _ => c2 | 2, _ => c3 | 3, _ => c5 | 4, _ => c6 | 5, _ => c7 | 6, _ => c8 | 7, _ => c9 | 8, _ => c10 | 9, _ => c11 | j + 10, hj => absurd hj (by omega)) dX9_count_6 (by decide) (by decide) (by decide) ?_
  refine r_ldc (pc := 133) (v := (-1000001)) E q_951 dX9_count_133 ?_
  exact r_iret (pc := 135) E hr dX9_count_135 h

