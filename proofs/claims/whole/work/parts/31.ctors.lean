/-! constructors, in the form es.set i (the object) ++ (what was made) -/
section CT
variable {p : Program} {l : Launch} {e : Env} {R : Room} {s : State} {m : MethodId} {args : Array Value} {below : List Frame} {meth : Method} {c : Code} {D : va_G} {cA : Nat → ClassId} {N0 nL cells slots : Nat} {Qf : State → Prop} {cc : ByteArray} {own : String}
variable {es : List va_E} {pc : Nat} {lv lv' : List (Option Value)} {st : List Value}
theorem cf_get {A l : List va_E} {i : Nat} {o : va_E} (hi : i < A.length) : (A.set i o ++ l)[i]? = some o := by
  rw [List.getElem?_append_left (by rw [List.length_set]; exact hi)]
  rw [List.getElem?_set]
  simp [hi]
theorem cf_set {A l : List va_E} {i : Nat} {o x : va_E} (hi : i < A.length) : (A.set i o ++ l).set i x = A.set i x ++ l := by
  rw [List.set_append_left _ _ (by rw [List.length_set]; exact hi), List.set_set]
theorem cf_getr {A l : List va_E} {n i k : Nat} {o x : va_E} (hn : A.length = n) (hk : l[k]? = some x) : (A.set i o ++ l)[n + k]? = some x := by
  rw [List.getElem?_append_right (by rw [List.length_set, hn]; exact Nat.le_add_right _ _), List.length_set, hn, Nat.add_sub_cancel_left]
  exact hk
theorem cf_setr {A l l' : List va_E} {n i k : Nat} {o x : va_E} (hn : A.length = n) (hl : l.set k x = l') : (A.set i o ++ l).set (n + k) x = A.set i o ++ l' := by
  rw [List.set_append_right _ _ (by rw [List.length_set, hn]; exact Nat.le_add_right _ _), List.length_set, hn, Nat.add_sub_cancel_left, hl]
theorem cf_len {A l : List va_E} {n i k : Nat} {o : va_E} (hn : A.length = n) (hk : l.length = k) : (A.set i o ++ l).length = n + k := by
  rw [List.length_append, List.length_set, hn, hk]
theorem cf_start {A : List va_E} {i : Nat} {o : va_E} (h : A[i]? = some o) : A = A.set i o ++ [] := by
  obtain ⟨h1, h2⟩ := List.getElem?_eq_some_iff.mp h
  rw [List.append_nil]
  apply List.ext_getElem?
  intro j
  rw [List.getElem?_set]
  by_cases hj : i = j
  · subst hj; rw [if_pos rfl, if_pos h1, h]
  · rw [if_neg hj]
theorem bb_newa (E : Eb p s m args meth c D cA N0 nL cc own) {atype : ArrayType} {i k0 N' nn k : Nat} {n : Int32} {o : va_E} {l0 l1 : List va_E} (hn0 : es.length = nn) (hk1 : l0.length = k) (hl1 : l0 ++ [.inl (cA k0, N', .inl (fun _ => 0))] = l1) (hk : (atype = .int ∧ k0 = 0) ∨ (atype = .byte ∧ k0 = 1)) (h1 : Cond.arrayClass (newarray.typeOf atype) ∈ WS) (hn : ¬ n < 0) (hN : n.toNatClampNeg = N') (hb : Nat.ble N' 100000 = true) (hcells : Nat.ble (cells + 1) R.cells = true) (hslots : Nat.ble (slots + N') R.slots = true) (hd : decode cc pc = .ok (.newarray atype, 2)) (kk : GB p l e R s m args below meth c D N0 nL Qf (cells + 1) (slots + N') (es.set i o ++ l1) (pc + 2) lv (.ref (N0 + (nn + k)) :: st)) : GB p l e R s m args below meth c D N0 nL Qf cells slots (es.set i o ++ l0) pc lv (.int n :: st) := by
  refine b_newa E hk h1 hn hN hb hcells hslots hd ?_
  rw [cf_len hn0 hk1, List.append_assoc, hl1]
  exact kk
theorem bb_newq (E : Eb p s m args meth c D cA N0 nL cc own) {index i k0 N' nn k : Nat} {C : String} {n : Int32} {o : va_E} {l0 l1 : List va_E} (hn0 : es.length = nn) (hk1 : l0.length = k) (hl1 : l0 ++ [.inl (cA k0, N', .inr (.inr (.inr (.inr (fun _ => none)))))] = l1) (hk : (C = RX4 ∧ k0 = 2) ∨ (C = RX6 ∧ k0 = 3)) (h1 : Cond.classLink own index C ∈ WS) (hn : ¬ n < 0) (hN : n.toNatClampNeg = N') (hb : Nat.ble N' 100000 = true) (hcells : Nat.ble (cells + 1) R.cells = true) (hslots : Nat.ble (slots + N') R.slots = true) (hd : decode cc pc = .ok (.anewarray index, 3)) (kk : GB p l e R s m args below meth c D N0 nL Qf (cells + 1) (slots + N') (es.set i o ++ l1) (pc + 3) lv (.ref (N0 + (nn + k)) :: st)) : GB p l e R s m args below meth c D N0 nL Qf cells slots (es.set i o ++ l0) pc lv (.int n :: st) := by
  refine b_newq E hk h1 hn hN hb hcells hslots hd ?_
  rw [cf_len hn0 hk1, List.append_assoc, hl1]
  exact kk
theorem bb_new (E : Eb p s m args meth c D cA N0 nL cc own) {ci index i nn k : Nat} {C : String} {T : u_T} {N : Nat} {ty : Nat → FieldType} {fs : List Value} {o : va_E} {l0 l1 : List va_E} (hn0 : es.length = nn) (hk1 : l0.length = k) (hl1 : l0 ++ [.inr (ci, fs)] = l1) (hc : KC ci C T N ty) (h1 : Cond.classLink own index C ∈ WS) (h2 : Cond.instantiable C N ∈ WS) (h3 : Cond.initialized C ∈ WS) (hfs : ∀ j, j < N → defaultValue (ty j) = vp_V fs j) (hcells : Nat.ble (cells + 1) R.cells = true) (hslots : Nat.ble (slots + N) R.slots = true) (hd : decode cc pc = .ok (.new index, 3)) (kk : GB p l e R s m args below meth c D N0 nL Qf (cells + 1) (slots + N) (es.set i o ++ l1) (pc + 3) lv (.ref (N0 + (nn + k)) :: st)) : GB p l e R s m args below meth c D N0 nL Qf cells slots (es.set i o ++ l0) pc lv st := by
  refine b_new E hc h1 h2 h3 hfs hcells hslots hd ?_
  rw [cf_len hn0 hk1, List.append_assoc, hl1]
  exact kk
theorem bb_put (E : Eb p s m args meth c D cA N0 nL cc own) {ci i j index nn : Nat} {C : String} {T : u_T} {N : Nat} {ty : Nat → FieldType} {fs fs' : List Value} {v : Value} {l0 : List va_E} (hn0 : es.length = nn) (hi : i < nn) (hc : KC ci C T N ty) (hfs : fs.set j v = fs') (hj : Nat.ble (j + 1) N = true) (hl0 : Nat.ble (j + 1) fs.length = true) (hlink : Cond.fieldLink own index (T j).1 (T j).2.1 (T j).2.2.1 ∈ WS) (hin : meth.name = "<init>") (hdecl : (T j).1 = own) (hn : narrow (ty j) v = v) (hfit : fits (ty j) v = true) (hd : decode cc pc = .ok (.putfield index, 3)) (kk : GB p l e R s m args below meth c D N0 nL Qf cells slots (es.set i (.inr (ci, fs')) ++ l0) (pc + 3) lv st) : GB p l e R s m args below meth c D N0 nL Qf cells slots (es.set i (.inr (ci, fs)) ++ l0) pc lv (v :: .ref (N0 + i) :: st) := by
  refine b_put E hc (cf_get (by rw [hn0]; exact hi)) hj hl0 hlink hin hdecl hn hfit hd ?_
  rw [cf_set (by rw [hn0]; exact hi), hfs]
  exact kk
theorem bb_get (E : Eb p s m args meth c D cA N0 nL cc own) {ci i j index nn : Nat} {C : String} {T : u_T} {N : Nat} {ty : Nat → FieldType} {fs : List Value} {v : Value} {l0 : List va_E} (hn0 : es.length = nn) (hi : i < nn) (hc : KC ci C T N ty) (hj : Nat.ble (j + 1) N = true) (hlink : Cond.fieldLink own index (T j).1 (T j).2.1 (T j).2.2.1 ∈ WS) (hv : fs[j]? = some v) (hd : decode cc pc = .ok (.getfield index, 3)) (kk : GB p l e R s m args below meth c D N0 nL Qf cells slots (es.set i (.inr (ci, fs)) ++ l0) (pc + 3) lv (v :: st)) : GB p l e R s m args below meth c D N0 nL Qf cells slots (es.set i (.inr (ci, fs)) ++ l0) pc lv (.ref (N0 + i) :: st) :=
  b_get E hc (cf_get (by rw [hn0]; exact hi)) hj hlink hv hd kk
theorem bb_callN (E : Eb p s m args meth c D cA N0 nL cc own) {y : MethodName} {bytes : ByteArray} {maxL index i i0 mc ms nn k : Nat} {rm : Room} {rest : List Value} {o x x' : va_E} {l0 l1 news : List va_E} (hn0 : es.length = nn) (hk0 : l0.length = k + 1) (hx : l0[k]? = some x) (hM : ∀ es1 : List va_E, es1.length = nn + (k + 1) → es1[nn + k]? = some x → MetB l y (wS y bytes maxL none) rm D cA N0 es1 [.ref (N0 + (nn + k))] (es1.set (nn + k) x' ++ news) mc ms) (hl1 : l0.set k x' ++ news = l1) (hci : CIi y bytes maxL 0) (hml : nestL[i]? = some (own, index, y)) (hr : rOkB rm R maxL mc ms = true) (hst : st = .ref (N0 + (nn + k)) :: rest) (h8 : cat8 rest = true) (hd : decode cc pc = .ok (.invokespecial index, 3)) (hcells : Nat.ble (cells + mc) R.cells = true) (hslots : Nat.ble (slots + ms) R.slots = true)
    (kk : GB p l e R s m args below meth c D N0 nL Qf (cells + mc) (slots + ms) (es.set i0 o ++ l1) (pc + 3) lv rest) : GB p l e R s m args below meth c D N0 nL Qf cells slots (es.set i0 o ++ l0) pc lv st := by
  refine b_callN (As := []) (rest := rest) E (hM _ (cf_len hn0 hk0) (cf_getr hn0 hx)) hci hml hr rfl hst h8 hd hcells hslots ?_
  rw [cf_setr hn0 rfl, List.append_assoc, hl1]
  exact kk
theorem bb_callI (E : Eb p s m args meth c D cA N0 nL cc own) {y : MethodName} {bytes : ByteArray} {maxL index i0 mc ms nn k : Nat} {rm : Room} {rest : List Value} {o x x' : va_E} {l0 l1 news : List va_E} (hn0 : es.length = nn) (hk0 : l0.length = k + 1) (hx : l0[k]? = some x) (hM : ∀ es1 : List va_E, es1.length = nn + (k + 1) → es1[nn + k]? = some x → MetB l y (wS y bytes maxL none) rm D cA N0 es1 [.ref (N0 + (nn + k))] (es1.set (nn + k) x' ++ news) mc ms) (hl1 : l0.set k x' ++ news = l1) (hci : CIi y bytes maxL 0) (hml : Cond.methodLink own index y ∈ WS) (hr : rOkB rm R maxL mc ms = true) (hst : st = .ref (N0 + (nn + k)) :: rest) (h8 : cat8 rest = true) (hd : decode cc pc = .ok (.invokespecial index, 3)) (hcells : Nat.ble (cells + mc) R.cells = true) (hslots : Nat.ble (slots + ms) R.slots = true)
    (kk : GB p l e R s m args below meth c D N0 nL Qf (cells + mc) (slots + ms) (es.set i0 o ++ l1) (pc + 3) lv rest) : GB p l e R s m args below meth c D N0 nL Qf cells slots (es.set i0 o ++ l0) pc lv st := by
  refine b_callI (As := []) (rest := rest) E (hM _ (cf_len hn0 hk0) (cf_getr hn0 hx)) hci hml hr rfl hst h8 hd hcells hslots ?_
  rw [cf_setr hn0 rfl, List.append_assoc, hl1]
  exact kk
/-- the objects of a loop: the row at place k holds them -/
def tkF (a k : Nat) : Nat → Option Nat := fun j => if j < k then some (a + j) else none
theorem tkF_0 (a : Nat) : tkF a 0 = fun _ => none := by funext j; simp [tkF]
theorem tkF_s (a k : Nat) : va_up (tkF a k) k (some (a + k)) = tkF a (k + 1) := by
  funext j
  unfold va_up tkF
  by_cases h : j = k
  · subst h; simp
  · rw [if_neg h]
    by_cases h2 : j < k
    · rw [if_pos h2, if_pos (by omega)]
    · rw [if_neg h2, if_neg (by omega)]
end CT

theorem q_oi : Cond.instanceMethod Lib.objectInit ∈ WS := mW 77 (by decide +kernel) rfl
theorem q_oc : Cond.code Lib.objectInit ⟨#[0xb1]⟩ 1 none ∈ WS := mW 78 (by decide +kernel) rfl
theorem dv_0 : ∀ j, j < 2 → defaultValue (tyX0 j) = vp_V [.null, .int 0] j := by decide +kernel
theorem dv_1 : ∀ j, j < 4 → defaultValue (tyX1 j) = vp_V [.null, .null, .null, .int 0] j := by decide +kernel
theorem dv_2 : ∀ j, j < 9 → defaultValue (tyX2 j) = vp_V [.null, .int 0, .int 0, .int 0, .int 0, .int 0, .int 0, .int 0, .int 0] j := by decide +kernel
theorem dv_3 : ∀ j, j < 8 → defaultValue (tyX3 j) = vp_V [.int 0, .int 0, .int 0, .int 0, .null, .null, .null, .null] j := by decide +kernel
theorem dv_4 : ∀ j, j < 7 → defaultValue (tyX4 j) = vp_V [.int 0, .int 0, .int 0, .int 0, .int 0, .int 0, .int 0] j := by decide +kernel
theorem dv_5 : ∀ j, j < 2 → defaultValue (tyX5 j) = vp_V [.null, .int 0] j := by decide +kernel
theorem dv_6 : ∀ j, j < 7 → defaultValue (tyX6 j) = vp_V [.int 0, .int 0, .int 0, .int 0, .int 0, .int 0, .int 0] j := by decide +kernel
theorem dv_7 : ∀ j, j < 5 → defaultValue (tyX7 j) = vp_V [.null, .int 0, .int 0, .int 0, .int 0] j := by decide +kernel
theorem dv_8 : ∀ j, j < 16 → defaultValue (tyX8 j) = vp_V [.int 0, .int 0, .int 0, .int 0, .int 0, .int 0, .int 0, .int 0, .null, .null, .null, .null, .null, .int 0, .null, .null] j := by decide +kernel
theorem dv_9 : ∀ j, j < 55 → defaultValue (tyX9 j) = vp_V [.int 0, .int 0, .int 0, .int 0, .int 0, .int 0, .int 0, .int 0, .int 0, .int 0, .int 0, .null, .null, .null, .null, .null, .null, .null, .int 0, .int 0, .null, .null, .null, .null, .null, .null, .null, .int 0, .int 0, .null, .null, .int 0, .null, .null, .int 0, .int 0, .null, .null, .int 0, .null, .null, .null, .int 0, .int 0, .int 0, .int 0, .int 0, .int 0, .int 0, .int 0, .int 0, .null, .null, .null, .int 0] j := by decide +kernel
def rm_X4_init : Room := { frames := 1, cells := 0, slots := 0, locals := 20 }
theorem cii_X4_init : CIi yX4_init cX4_init 1 0 := ⟨q_270, q_64, q_271, rfl, by decide +kernel⟩
set_option maxRecDepth 100000 in
set_option maxHeartbeats 4000000 in
theorem c_X4_init {l : Launch} (D : va_G) (cA : Nat → ClassId) (N0 : Nat) (es : List va_E) (nn i : Nat) (hn : es.length = nn) (hi : i < nn) (he : es[i]? = some (.inr (4, [.int 0, .int 0, .int 0, .int 0, .int 0, .int 0, .int 0]))) : MetB l yX4_init (wS yX4_init cX4_init 1 none) rm_X4_init D cA N0 es [.ref (N0 + i)] (es.set i (.inr (4, [.int 0, .int 0, .int 0, .int 0, .int 0, .int 0, .int 0])) ++ []) 0 0 := by
  refine metB (own := RX4) (k := 0) (lv0 := [some (.ref (N0 + i))]) (by decide) rfl rfl rfl rfl ?_
  intro p e s m args below meth c E hr hin
  refine b_es (cf_start he) ?_
  refine b_aload_n (pc := 0) E dX4_init_0 rfl rfl ?_
  refine b_objInit (pc := 1) E q_272 q_oi q_oc dX4_init_1 rfl rfl rfl ?_
  exact b_vret (pc := 4) E hr dX4_init_4 rfl
def rm_X6_init : Room := { frames := 1, cells := 0, slots := 0, locals := 20 }
theorem cii_X6_init : CIi yX6_init cX6_init 1 0 := ⟨q_91, q_57, q_92, rfl, by decide +kernel⟩
set_option maxRecDepth 100000 in
set_option maxHeartbeats 4000000 in
theorem c_X6_init {l : Launch} (D : va_G) (cA : Nat → ClassId) (N0 : Nat) (es : List va_E) (nn i : Nat) (hn : es.length = nn) (hi : i < nn) (he : es[i]? = some (.inr (6, [.int 0, .int 0, .int 0, .int 0, .int 0, .int 0, .int 0]))) : MetB l yX6_init (wS yX6_init cX6_init 1 none) rm_X6_init D cA N0 es [.ref (N0 + i)] (es.set i (.inr (6, [.int 0, .int 0, .int 0, .int 0, .int 0, .int 0, .int 0])) ++ []) 0 0 := by
  refine metB (own := RX6) (k := 0) (lv0 := [some (.ref (N0 + i))]) (by decide) rfl rfl rfl rfl ?_
  intro p e s m args below meth c E hr hin
  refine b_es (cf_start he) ?_
  refine b_aload_n (pc := 0) E dX6_init_0 rfl rfl ?_
  refine b_objInit (pc := 1) E q_93 q_oi q_oc dX6_init_1 rfl rfl rfl ?_
  exact b_vret (pc := 4) E hr dX6_init_4 rfl
def rm_X5_init : Room := { frames := 1, cells := 1, slots := 300, locals := 20 }
theorem cii_X5_init : CIi yX5_init cX5_init 1 0 := ⟨q_147, q_59, q_148, rfl, by decide +kernel⟩
set_option maxRecDepth 100000 in
set_option maxHeartbeats 4000000 in
theorem c_X5_init {l : Launch} (D : va_G) (cA : Nat → ClassId) (N0 : Nat) (es : List va_E) (nn i : Nat) (hn : es.length = nn) (hi : i < nn) (he : es[i]? = some (.inr (5, [.null, .int 0]))) : MetB l yX5_init (wS yX5_init cX5_init 1 none) rm_X5_init D cA N0 es [.ref (N0 + i)] (es.set i (.inr (5, [.ref (N0 + (nn + 0)), .int 0])) ++ [.inl (cA 1, 300, .inl (fun _ => 0))]) 1 300 := by
  refine metB (own := RX5) (k := 0) (lv0 := [some (.ref (N0 + i))]) (by decide) rfl rfl rfl rfl ?_
  intro p e s m args below meth c E hr hin
  refine b_es (cf_start he) ?_
  refine b_aload_n (pc := 0) E dX5_init_0 rfl rfl ?_
  refine b_objInit (pc := 1) E q_149 q_oi q_oc dX5_init_1 rfl rfl rfl ?_
  refine b_aload_n (pc := 4) E dX5_init_4 rfl rfl ?_
  refine b_sipush (pc := 5) (v := 300) E dX5_init_5 (by decide) ?_
  refine bb_newa (pc := 8) (atype := .byte) (k0 := 1) (k := 0) (l1 := [.inl (cA 1, 300, .inl (fun _ => 0))]) E hn rfl rfl (by decide) q_159 (by decide) (by decide) rfl rfl rfl dX5_init_8 ?_
  refine bb_put (pc := 10) (j := 0) (fs' := [.ref (N0 + (nn + 0)), .int 0]) E hn hi kc_5 rfl rfl rfl q_150 hin rfl rfl rfl dX5_init_10 ?_
  exact b_vret (pc := 13) E hr dX5_init_13 rfl
def rm_X0_init : Room := { frames := 1, cells := 1, slots := 16, locals := 20 }
theorem cii_X0_init : CIi yX0_init cX0_init 1 0 := ⟨q_250, q_62, q_251, rfl, by decide +kernel⟩
set_option maxRecDepth 100000 in
set_option maxHeartbeats 4000000 in
theorem c_X0_init {l : Launch} (D : va_G) (cA : Nat → ClassId) (N0 : Nat) (es : List va_E) (nn i : Nat) (hn : es.length = nn) (hi : i < nn) (he : es[i]? = some (.inr (0, [.null, .int 0]))) : MetB l yX0_init (wS yX0_init cX0_init 1 none) rm_X0_init D cA N0 es [.ref (N0 + i)] (es.set i (.inr (0, [.ref (N0 + (nn + 0)), .int 0])) ++ [.inl (cA 0, 16, .inl (fun _ => 0))]) 1 16 := by
  refine metB (own := RX0) (k := 0) (lv0 := [some (.ref (N0 + i))]) (by decide) rfl rfl rfl rfl ?_
  intro p e s m args below meth c E hr hin
  refine b_es (cf_start he) ?_
  refine b_aload_n (pc := 0) E dX0_init_0 rfl rfl ?_
  refine b_objInit (pc := 1) E q_252 q_oi q_oc dX0_init_1 rfl rfl rfl ?_
  refine b_aload_n (pc := 4) E dX0_init_4 rfl rfl ?_
  refine b_bipush (pc := 5) (v := 16) E dX0_init_5 (by decide) ?_
  refine bb_newa (pc := 7) (atype := .int) (k0 := 0) (k := 0) (l1 := [.inl (cA 0, 16, .inl (fun _ => 0))]) E hn rfl rfl (by decide) q_227 (by decide) (by decide) rfl rfl rfl dX0_init_7 ?_
  refine bb_put (pc := 9) (j := 0) (fs' := [.ref (N0 + (nn + 0)), .int 0]) E hn hi kc_0 rfl rfl rfl q_253 hin rfl rfl rfl dX0_init_9 ?_
  exact b_vret (pc := 12) E hr dX0_init_12 rfl
def rm_X1_init : Room := { frames := 1, cells := 3, slots := 184, locals := 20 }
theorem cii_X1_init : CIi yX1_init cX1_init 1 0 := ⟨q_231, q_61, q_232, rfl, by decide +kernel⟩
set_option maxRecDepth 100000 in
set_option maxHeartbeats 4000000 in
theorem c_X1_init {l : Launch} (D : va_G) (cA : Nat → ClassId) (N0 : Nat) (es : List va_E) (nn i : Nat) (hn : es.length = nn) (hi : i < nn) (he : es[i]? = some (.inr (1, [.null, .null, .null, .int 0]))) : MetB l yX1_init (wS yX1_init cX1_init 1 none) rm_X1_init D cA N0 es [.ref (N0 + i)] (es.set i (.inr (1, [.ref (N0 + (nn + 0)), .ref (N0 + (nn + 1)), .ref (N0 + (nn + 2)), .int 0])) ++ [.inl (cA 0, 7, .inl (fun _ => 0)), .inl (cA 0, 49, .inl (fun _ => 0)), .inl (cA 0, 128, .inl (fun _ => 0))]) 3 184 := by
  refine metB (own := RX1) (k := 0) (lv0 := [some (.ref (N0 + i))]) (by decide) rfl rfl rfl rfl ?_
  intro p e s m args below meth c E hr hin
  refine b_es (cf_start he) ?_
  refine b_aload_n (pc := 0) E dX1_init_0 rfl rfl ?_
  refine b_objInit (pc := 1) E q_233 q_oi q_oc dX1_init_1 rfl rfl rfl ?_
  refine b_aload_n (pc := 4) E dX1_init_4 rfl rfl ?_
  refine b_bipush (pc := 5) (v := 7) E dX1_init_5 (by decide) ?_
  refine bb_newa (pc := 7) (atype := .int) (k0 := 0) (k := 0) (l1 := [.inl (cA 0, 7, .inl (fun _ => 0))]) E hn rfl rfl (by decide) q_227 (by decide) (by decide) rfl rfl rfl dX1_init_7 ?_
  refine bb_put (pc := 9) (j := 0) (fs' := [.ref (N0 + (nn + 0)), .null, .null, .int 0]) E hn hi kc_1 rfl rfl rfl q_234 hin rfl rfl rfl dX1_init_9 ?_
  refine b_aload_n (pc := 12) E dX1_init_12 rfl rfl ?_
  refine b_bipush (pc := 13) (v := 49) E dX1_init_13 (by decide) ?_
  refine bb_newa (pc := 15) (atype := .int) (k0 := 0) (k := 1) (l1 := [.inl (cA 0, 7, .inl (fun _ => 0)), .inl (cA 0, 49, .inl (fun _ => 0))]) E hn rfl rfl (by decide) q_227 (by decide) (by decide) rfl rfl rfl dX1_init_15 ?_
  refine bb_put (pc := 17) (j := 1) (fs' := [.ref (N0 + (nn + 0)), .ref (N0 + (nn + 1)), .null, .int 0]) E hn hi kc_1 rfl rfl rfl q_235 hin rfl rfl rfl dX1_init_17 ?_
  refine b_aload_n (pc := 20) E dX1_init_20 rfl rfl ?_
  refine b_sipush (pc := 21) (v := 128) E dX1_init_21 (by decide) ?_
  refine bb_newa (pc := 24) (atype := .int) (k0 := 0) (k := 2) (l1 := [.inl (cA 0, 7, .inl (fun _ => 0)), .inl (cA 0, 49, .inl (fun _ => 0)), .inl (cA 0, 128, .inl (fun _ => 0))]) E hn rfl rfl (by decide) q_227 (by decide) (by decide) rfl rfl rfl dX1_init_24 ?_
  refine bb_put (pc := 26) (j := 2) (fs' := [.ref (N0 + (nn + 0)), .ref (N0 + (nn + 1)), .ref (N0 + (nn + 2)), .int 0]) E hn hi kc_1 rfl rfl rfl q_236 hin rfl rfl rfl dX1_init_26 ?_
  exact b_vret (pc := 29) E hr dX1_init_29 rfl
def rm_X3_init : Room := { frames := 1, cells := 4, slots := 20, locals := 20 }
theorem cii_X3_init : CIi yX3_init cX3_init 1 0 := ⟨q_194, q_60, q_195, rfl, by decide +kernel⟩
set_option maxRecDepth 100000 in
set_option maxHeartbeats 4000000 in
theorem c_X3_init {l : Launch} (D : va_G) (cA : Nat → ClassId) (N0 : Nat) (es : List va_E) (nn i : Nat) (hn : es.length = nn) (hi : i < nn) (he : es[i]? = some (.inr (3, [.int 0, .int 0, .int 0, .int 0, .null, .null, .null, .null]))) : MetB l yX3_init (wS yX3_init cX3_init 1 none) rm_X3_init D cA N0 es [.ref (N0 + i)] (es.set i (.inr (3, [.int 0, .int 0, .int 0, .int 0, .ref (N0 + (nn + 0)), .ref (N0 + (nn + 1)), .ref (N0 + (nn + 2)), .ref (N0 + (nn + 3))])) ++ [.inl (cA 0, 5, .inl (fun _ => 0)), .inl (cA 0, 5, .inl (fun _ => 0)), .inl (cA 0, 5, .inl (fun _ => 0)), .inl (cA 0, 5, .inl (fun _ => 0))]) 4 20 := by
  refine metB (own := RX3) (k := 0) (lv0 := [some (.ref (N0 + i))]) (by decide) rfl rfl rfl rfl ?_
  intro p e s m args below meth c E hr hin
  refine b_es (cf_start he) ?_
  refine b_aload_n (pc := 0) E dX3_init_0 rfl rfl ?_
  refine b_objInit (pc := 1) E q_196 q_oi q_oc dX3_init_1 rfl rfl rfl ?_
  refine b_aload_n (pc := 4) E dX3_init_4 rfl rfl ?_
  refine b_iconst (pc := 5) (v := 5) E dX3_init_5 (by decide) ?_
  refine bb_newa (pc := 6) (atype := .int) (k0 := 0) (k := 0) (l1 := [.inl (cA 0, 5, .inl (fun _ => 0))]) E hn rfl rfl (by decide) q_227 (by decide) (by decide) rfl rfl rfl dX3_init_6 ?_
  refine bb_put (pc := 8) (j := 4) (fs' := [.int 0, .int 0, .int 0, .int 0, .ref (N0 + (nn + 0)), .null, .null, .null]) E hn hi kc_3 rfl rfl rfl q_206 hin rfl rfl rfl dX3_init_8 ?_
  refine b_aload_n (pc := 11) E dX3_init_11 rfl rfl ?_
  refine b_iconst (pc := 12) (v := 5) E dX3_init_12 (by decide) ?_
  refine bb_newa (pc := 13) (atype := .int) (k0 := 0) (k := 1) (l1 := [.inl (cA 0, 5, .inl (fun _ => 0)), .inl (cA 0, 5, .inl (fun _ => 0))]) E hn rfl rfl (by decide) q_227 (by decide) (by decide) rfl rfl rfl dX3_init_13 ?_
  refine bb_put (pc := 15) (j := 5) (fs' := [.int 0, .int 0, .int 0, .int 0, .ref (N0 + (nn + 0)), .ref (N0 + (nn + 1)), .null, .null]) E hn hi kc_3 rfl rfl rfl q_207 hin rfl rfl rfl dX3_init_15 ?_
  refine b_aload_n (pc := 18) E dX3_init_18 rfl rfl ?_
  refine b_iconst (pc := 19) (v := 5) E dX3_init_19 (by decide) ?_
  refine bb_newa (pc := 20) (atype := .int) (k0 := 0) (k := 2) (l1 := [.inl (cA 0, 5, .inl (fun _ => 0)), .inl (cA 0, 5, .inl (fun _ => 0)), .inl (cA 0, 5, .inl (fun _ => 0))]) E hn rfl rfl (by decide) q_227 (by decide) (by decide) rfl rfl rfl dX3_init_20 ?_
  refine bb_put (pc := 22) (j := 6) (fs' := [.int 0, .int 0, .int 0, .int 0, .ref (N0 + (nn + 0)), .ref (N0 + (nn + 1)), .ref (N0 + (nn + 2)), .null]) E hn hi kc_3 rfl rfl rfl q_208 hin rfl rfl rfl dX3_init_22 ?_
  refine b_aload_n (pc := 25) E dX3_init_25 rfl rfl ?_
  refine b_iconst (pc := 26) (v := 5) E dX3_init_26 (by decide) ?_
  refine bb_newa (pc := 27) (atype := .int) (k0 := 0) (k := 3) (l1 := [.inl (cA 0, 5, .inl (fun _ => 0)), .inl (cA 0, 5, .inl (fun _ => 0)), .inl (cA 0, 5, .inl (fun _ => 0)), .inl (cA 0, 5, .inl (fun _ => 0))]) E hn rfl rfl (by decide) q_227 (by decide) (by decide) rfl rfl rfl dX3_init_27 ?_
  refine bb_put (pc := 29) (j := 7) (fs' := [.int 0, .int 0, .int 0, .int 0, .ref (N0 + (nn + 0)), .ref (N0 + (nn + 1)), .ref (N0 + (nn + 2)), .ref (N0 + (nn + 3))]) E hn hi kc_3 rfl rfl rfl q_209 hin rfl rfl rfl dX3_init_29 ?_
  exact b_vret (pc := 32) E hr dX3_init_32 rfl
def rm_X2_init : Room := { frames := 2, cells := 2, slots := 302, locals := 40 }
theorem cii_X2_init : CIi yX2_init cX2_init 1 0 := ⟨q_141, q_58, q_142, rfl, by decide +kernel⟩
set_option maxRecDepth 100000 in
set_option maxHeartbeats 4000000 in
theorem c_X2_init {l : Launch} (D : va_G) (cA : Nat → ClassId) (N0 : Nat) (es : List va_E) (nn i : Nat) (hn : es.length = nn) (hi : i < nn) (he : es[i]? = some (.inr (2, [.null, .int 0, .int 0, .int 0, .int 0, .int 0, .int 0, .int 0, .int 0]))) : MetB l yX2_init (wS yX2_init cX2_init 1 none) rm_X2_init D cA N0 es [.ref (N0 + i)] (es.set i (.inr (2, [.ref (N0 + (nn + 0)), .int 0, .int 0, .int 0, .int 0, .int 0, .int 0, .int 0, .int 0])) ++ [.inr (5, [.ref (N0 + (nn + (0 + 1) + 0)), .int 0]), .inl (cA 1, 300, .inl (fun _ => 0))]) 2 302 := by
  refine metB (own := RX2) (k := 0) (lv0 := [some (.ref (N0 + i))]) (by decide) rfl rfl rfl rfl ?_
  intro p e s m args below meth c E hr hin
  refine b_es (cf_start he) ?_
  refine b_aload_n (pc := 0) E dX2_init_0 rfl rfl ?_
  refine b_objInit (pc := 1) E q_143 q_oi q_oc dX2_init_1 rfl rfl rfl ?_
  refine b_aload_n (pc := 4) E dX2_init_4 rfl rfl ?_
  refine bb_new (pc := 5) (k := 0) (l1 := [.inr (5, [.null, .int 0])]) E hn rfl rfl kc_5 q_144 q_145 q_59 dv_5 rfl rfl dX2_init_5 ?_
  refine b_dup (pc := 8) E dX2_init_8 rfl ?_
  refine bb_callN (pc := 9) (i := 2) (k := 0) (rest := [.ref (N0 + (nn + 0)), .ref (N0 + i)]) (x' := .inr (5, [.ref (N0 + (nn + (0 + 1) + 0)), .int 0])) (news := [.inl (cA 1, 300, .inl (fun _ => 0))]) (l1 := [.inr (5, [.ref (N0 + (nn + (0 + 1) + 0)), .int 0]), .inl (cA 1, 300, .inl (fun _ => 0))]) E hn rfl rfl (fun es1 g1 g2 => c_X5_init D cA N0 es1 _ _ g1 (Nat.lt_succ_self _) g2) rfl cii_X5_init rfl rfl rfl rfl dX2_init_9 rfl rfl ?_
  refine bb_put (pc := 12) (j := 0) (fs' := [.ref (N0 + (nn + 0)), .int 0, .int 0, .int 0, .int 0, .int 0, .int 0, .int 0, .int 0]) E hn hi kc_2 rfl rfl rfl q_160 hin rfl rfl rfl dX2_init_12 ?_
  exact b_vret (pc := 15) E hr dX2_init_15 rfl
