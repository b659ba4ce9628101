/-! calls, answers, entries -/
section GC
variable {p : Program} {l : Launch} {e : Env} {R : Room} {s : State} {m : MethodId} {args : Array Value} {below : List Frame} {meth : Method} {c : Code} {X : XT} {A : Nat → Prop} {nL cells slots : Nat} {Qf : State → Prop} {cc : ByteArray} {own : String}
variable {σ : ST} {pc : Nat} {lv lv' : List (Option Value)} {st : List Value}
theorem xA_in (E : Ev p R s m args meth c X A nL cells slots cc own) : ∀ q, xA X q → A q := fun q h => by
  obtain ⟨k, h1, rfl⟩ := h
  exact E.ia k h1
/-- the callee's start -/
theorem Ev.pw (E : Ev p R s m args meth c X A nL cells slots cc own) {H : Heap} {locs : List Loc} (hP : va_P (xD X) vwCl (wl X σ) H) (hS : va_S A s.heap H locs) (U : State) (hU : U.heap = H) (hW : s.WarmedH U.vm) : Pw X σ U :=
  ⟨by rw [hU]; exact hP, E.kb.warm hW, by rw [hU]; exact ((E.sb.kept hS.2.1).narrow (xA_in E)).moved hW.alike, E.ap⟩
theorem pw_blind {As : List Value} : FrameBlind (va_Pc As (Pw X σ)) := fun a U g mk h => ⟨h.1, h.2.1, Kb.same (s := U) (U := U.calling g mk a) rfl h.2.2.1, Sb.moved (u := U) (U := U.calling g mk a) (Vm.Alike.refl U.vm) h.2.2.2.1, h.2.2.2.2⟩
/-- an instance method of the tables -/
def CI (y : MethodName) (C : String) (bytes : ByteArray) (maxL : Nat) (ret : Option FieldType) (n : Nat) : Prop := Cond.instanceMethod y ∈ WS ∧ Cond.selects C y y ∈ WS ∧ Cond.initialized C ∈ WS ∧ Cond.code y bytes maxL ret ∈ WS ∧ (y.cls = C ∧ y.cls ≠ "java/lang/invoke/MethodHandle" ∧ y.cls ≠ "java/lang/invoke/VarHandle" ∧ (parseMethodDescriptor y.desc).map (fun d => d.parameters.length) = some n)
/-- a static method of the tables -/
def CS (y : MethodName) (bytes : ByteArray) (maxL : Nat) (ret : Option FieldType) (n : Nat) : Prop := Cond.static y ∈ WS ∧ Cond.initialized y.cls ∈ WS ∧ Cond.code y bytes maxL ret ∈ WS ∧ (y.cls ≠ "java/lang/invoke/MethodHandle" ∧ y.cls ≠ "java/lang/invoke/VarHandle" ∧ (parseMethodDescriptor y.desc).map (fun d => d.parameters.length) = some n)
/-- the callee's room in the caller's -/
def rOk (rm R : Room) (maxL : Nat) : Bool := Nat.ble (rm.frames + 1) R.frames && Nat.ble (8 + (maxL + 11) + rm.locals) R.locals && (rm.cells == 0) && (rm.slots == 0)
theorem rOk_spec {rm R : Room} {maxL : Nat} (h : rOk rm R maxL = true) : (rm.frames + 1 ≤ R.frames ∧ 8 + (maxL + 11) + rm.locals ≤ R.locals) ∧ rm.cells = 0 ∧ rm.slots = 0 := by
  simp only [rOk, Bool.and_eq_true, beq_iff_eq] at h
  exact ⟨⟨Nat.le_of_ble_eq_true h.1.1.1, Nat.le_of_ble_eq_true h.1.1.2⟩, h.1.2, h.2⟩
def cat8 (st : List Value) : Bool := Nat.ble ((st.map fun v => v.category).sum) 8
theorem runV (E : Ev p R s m args meth c X A nL cells slots cc own) {y : MethodName} {bytes : ByteArray} {maxL n index ci k : Nat} {ret : Option FieldType} {rm : Room} {C : String} {T : u_T} {N : Nat} {As rest : List Value} {Qc : Array Value → State → Outcome → State → Prop}
    (hM : Met l y (wS y bytes maxL ret) rm (va_Pc (.ref (xa X k) :: As) (Pw X σ)) Qc 0 0 (xA X)) (hk : okc ci k) (hc : vwCl[ci]? = some (C, T, N)) (hci : CI y C bytes maxL ret n) (hml : Cond.methodLink own index y ∈ WS) (hr : rOk rm R maxL = true) (hn : As.length = n) (hst : st = As.reverse ++ .ref (xa X k) :: rest) (h8 : cat8 rest = true) (hd : decode cc pc = .ok (.invokevirtual index, 3))
    {H : Heap} {locs : List Loc} {ls : Array Slot} (hP : va_P (xD X) vwCl (wl X σ) H) (hS : va_S A s.heap H locs) (hl : Lv ls nL lv) :
    va_Run p l e R s m args below meth c H locs cells slots 0 0 (F0 m pc ls st) rest (Qc (.ref (xa X k) :: As).toArray) (xA X) := by
  obtain ⟨c1, c2, c3, c4, c5⟩ := hci
  obtain ⟨g1, g2, g3⟩ := rOk_spec hr
  have hg := wl_get X σ hk.1
  rw [(en_obj X σ hk hc).1] at hg
  have hG : GoodIn WS (wsV own index C y (wS y bytes maxL ret)) := by
    intro w hw
    unfold wsV at hw
    rcases List.mem_append.mp hw with hw | hw
    · rcases List.mem_cons.mp hw with rfl | hw
      · exact ⟨hml, WS_good _ hml⟩
      rcases List.mem_cons.mp hw with rfl | hw
      · exact ⟨c1, WS_good _ c1⟩
      rcases List.mem_cons.mp hw with rfl | hw
      · exact ⟨c2, WS_good _ c2⟩
      rcases List.mem_cons.mp hw with rfl | hw
      · exact ⟨c3, WS_good _ c3⟩
      · cases hw
    · exact wS_good (fun w h => h) c4 w hw
  exact va_runV (As := As) (rest := rest) ⟨E.x, E.b, E.ml, E.ow, E.ts⟩ hM (cwV n E.ts hG rfl g2 g3 c5 g1) ⟨pw_blind, va_recv E.kb.1 hP hc hg, fun U hU hW => ⟨rfl, E.pw hP hS U hU hW⟩⟩ rfl hn hl.1 hst (lv_room (Nat.le_of_ble_eq_true h8)) hd ⟨E.rc, E.rs⟩
theorem runS (E : Ev p R s m args meth c X A nL cells slots cc own) {y : MethodName} {bytes : ByteArray} {maxL n index : Nat} {ret : Option FieldType} {rm : Room} {As rest : List Value} {Qc : Array Value → State → Outcome → State → Prop}
    (hM : Met l y (wS y bytes maxL ret) rm (va_Pc As (Pw X σ)) Qc 0 0 (xA X)) (hcs : CS y bytes maxL ret n) (hml : Cond.methodLink own index y ∈ WS) (hr : rOk rm R maxL = true) (hn : As.length = n) (hst : st = As.reverse ++ rest) (h8 : cat8 rest = true) (hd : decode cc pc = .ok (.invokestatic index, 3))
    {H : Heap} {locs : List Loc} {ls : Array Slot} (hP : va_P (xD X) vwCl (wl X σ) H) (hS : va_S A s.heap H locs) (hl : Lv ls nL lv) :
    va_Run p l e R s m args below meth c H locs cells slots 0 0 (F0 m pc ls st) rest (Qc As.toArray) (xA X) := by
  obtain ⟨c1, c2, c3, c4⟩ := hcs
  obtain ⟨g1, g2, g3⟩ := rOk_spec hr
  exact va_runS (As := As) (rest := rest) ⟨E.x, E.b, E.ml, E.ow, E.ts⟩ hM ⟨callB_of n E.ts (wS_good (fun w h => h) c3) rfl g2 g3 (E.ts _ c2) (E.ts _ hml) c4 g1, E.ts _ c1⟩ ⟨pw_blind, fun U hU hW => ⟨rfl, E.pw hP hS U hU hW⟩⟩ rfl hn hl.1 hst (lv_room (Nat.le_of_ble_eq_true h8)) hd ⟨E.rc, E.rs⟩
theorem runN (E : Ev p R s m args meth c X A nL cells slots cc own) {y : MethodName} {bytes : ByteArray} {maxL n index : Nat} {ret : Option FieldType} {rm : Room} {host : String} {As rest : List Value} {Qc : Array Value → State → Outcome → State → Prop}
    (hM : Met l y (wS y bytes maxL ret) rm (va_Pc As (Pw X σ)) Qc 0 0 (xA X)) (hcs : CS y bytes maxL ret n) (hml : va_Nw (.methodLinkNest own index y host) s) (hr : rOk rm R maxL = true) (hn : As.length = n) (hst : st = As.reverse ++ rest) (h8 : cat8 rest = true) (hd : decode cc pc = .ok (.invokestatic index, 3))
    {H : Heap} {locs : List Loc} {ls : Array Slot} (hP : va_P (xD X) vwCl (wl X σ) H) (hS : va_S A s.heap H locs) (hl : Lv ls nL lv) :
    va_Run p l e R s m args below meth c H locs cells slots 0 0 (F0 m pc ls st) rest (Qc As.toArray) (xA X) := by
  obtain ⟨c1, c2, c3, c4⟩ := hcs
  obtain ⟨g1, g2, g3⟩ := rOk_spec hr
  exact va_runSN (As := As) (rest := rest) ⟨E.x, E.b, E.ml, E.ow, E.ts⟩ hM ⟨va_cnB n E.ts (wS_good (fun w h => h) c3) rfl g2 g3 hml (E.ts _ c2) c4 g1, E.ts _ c1, trivial⟩ ⟨pw_blind, fun U hU hW => ⟨rfl, E.pw hP hS U hU hW⟩⟩ rfl hn hl.1 hst (lv_room (Nat.le_of_ble_eq_true h8)) hd ⟨E.rc, E.rs⟩
/-- behind a call -/
theorem afterI (E : Ev p R s m args meth c X A nL cells slots cc own) {Q1 : Int32 → ST → Prop} {a : Array Value} {rest : List Value} (hr : ∀ (H : Heap) (locs : List Loc) (ls : Array Slot), va_P (xD X) vwCl (wl X σ) H → va_S A s.heap H locs → Lv ls nL lv → va_Run p l e R s m args below meth c H locs cells slots 0 0 (F0 m pc ls st) rest (va_Qi Q1 (Bw X) (xA X) a) (xA X))
    (kk : ∀ (r : Int32) (τ : ST), Q1 r τ → G p l e R s m args below meth c X A nL cells slots Qf τ (pc + 3) lv (.int r :: rest)) : G p l e R s m args below meth c X A nL cells slots Qf σ pc lv st :=
  fun H locs ls hP hS hl => va_calli (hr H locs ls hP hS hl) hS (fun q _ h => xA_in E q h) (xA_in E) (fun r u t H1 locs1 ht _ hp hB _ _ hS1 => kk r u hp H1 locs1 ls (ht ▸ hB) hS1 hl)
theorem afterL (E : Ev p R s m args meth c X A nL cells slots cc own) {Q1 : Int64 → ST → Prop} {a : Array Value} {rest : List Value} (hr : ∀ (H : Heap) (locs : List Loc) (ls : Array Slot), va_P (xD X) vwCl (wl X σ) H → va_S A s.heap H locs → Lv ls nL lv → va_Run p l e R s m args below meth c H locs cells slots 0 0 (F0 m pc ls st) rest (va_Ql Q1 (Bw X) (xA X) a) (xA X))
    (kk : ∀ (r : Int64) (τ : ST), Q1 r τ → G p l e R s m args below meth c X A nL cells slots Qf τ (pc + 3) lv (.long r :: rest)) : G p l e R s m args below meth c X A nL cells slots Qf σ pc lv st :=
  fun H locs ls hP hS hl => va_calll (hr H locs ls hP hS hl) hS (fun q _ h => xA_in E q h) (xA_in E) (fun r u t H1 locs1 ht _ hp hB _ _ hS1 => kk r u hp H1 locs1 ls (ht ▸ hB) hS1 hl)
theorem afterV (E : Ev p R s m args meth c X A nL cells slots cc own) {Q1 : ST → Prop} {a : Array Value} {rest : List Value} (hr : ∀ (H : Heap) (locs : List Loc) (ls : Array Slot), va_P (xD X) vwCl (wl X σ) H → va_S A s.heap H locs → Lv ls nL lv → va_Run p l e R s m args below meth c H locs cells slots 0 0 (F0 m pc ls st) rest (va_Qv Q1 (Bw X) (xA X) a) (xA X))
    (kk : ∀ (τ : ST), Q1 τ → G p l e R s m args below meth c X A nL cells slots Qf τ (pc + 3) lv rest) : G p l e R s m args below meth c X A nL cells slots Qf σ pc lv st :=
  fun H locs ls hP hS hl => va_callv (hr H locs ls hP hS hl) hS (fun q _ h => xA_in E q h) (xA_in E) (fun u t H1 locs1 ht _ hp hB _ _ hS1 => kk u hp H1 locs1 ls (ht ▸ hB) hS1 hl)
theorem afterO (E : Ev p R s m args meth c X A nL cells slots cc own) {Q1 : Option Nat → ST → Prop} {a : Array Value} {rest : List Value} (hr : ∀ (H : Heap) (locs : List Loc) (ls : Array Slot), va_P (xD X) vwCl (wl X σ) H → va_S A s.heap H locs → Lv ls nL lv → va_Run p l e R s m args below meth c H locs cells slots 0 0 (F0 m pc ls st) rest (va_Qo X Q1 a) (xA X))
    (kk : ∀ (r : Option Nat) (τ : ST), Q1 r τ → G p l e R s m args below meth c X A nL cells slots Qf τ (pc + 3) lv (rv X r :: rest)) : G p l e R s m args below meth c X A nL cells slots Qf σ pc lv st := by
  intro H locs ls hP hS hl T hT Z
  obtain ⟨v, st₀, t, T', L, h0, Z', hL, e1, e2, ⟨⟨r, u, hv, hp, hb⟩, hz, hk⟩, sg⟩ := hr H locs ls hP hS hl T hT Z
  cases hv
  rw [h0] at hz hk
  have hA := xA_in E
  obtain ⟨t2, a1, b1⟩ := kk r u hp T'.heap (locs ++ L) ls (by rw [e1]; exact hb)
    ⟨Nat.le_trans hS.1 (by rw [e1]; exact hz), fun q h1 h2 => by rw [e1, hk q (Nat.lt_of_lt_of_le h1 hS.1) (fun z => h2 (hA q z))]; exact hS.2.1 q h1 h2, fun q hq => by
      rcases List.mem_append.mp hq with h | h
      · exact hS.2.2 q h
      · exact hA _ (hL q h)⟩ hl T' rfl Z'
  exact ⟨t2, sg t2 a1, b1⟩
/-! answers -/
theorem r_iret {Q : Int32 → ST → Prop} {x : Int32} (E : Ev p R s m args meth c X (xA X) nL 0 0 cc own) (hr : meth.sig.returnType = some .int) (hd : decode cc pc = .ok (.ireturn, 1)) (hq : Q x σ) : G p l e R s m args below meth c X (xA X) nL 0 0 (MQ below (va_Qi Q (Bw X) (xA X)) args s 0 0 (xA X)) σ pc lv [.int x] :=
  fun H locs ls hP hS hl => W.iret (v := x) E.x E.b hr (fun t ht hW => ⟨⟨x, σ, rfl, hq, by show va_P _ _ _ t.heap; rw [ht]; exact hP⟩, hS.F ht⟩) hS.2.2 hd E.lk
theorem r_zret {Q : Int32 → ST → Prop} {x : Int32} (E : Ev p R s m args meth c X (xA X) nL 0 0 cc own) (hr : meth.sig.returnType = some .boolean) (hd : decode cc pc = .ok (.ireturn, 1)) (hn : narrow .boolean (.int x) = .int x) (hq : Q x σ) : G p l e R s m args below meth c X (xA X) nL 0 0 (MQ below (va_Qi Q (Bw X) (xA X)) args s 0 0 (xA X)) σ pc lv [.int x] :=
  fun H locs ls hP hS hl => W.zret (v := x) E.x E.b hr hn (fun t ht hW => ⟨⟨x, σ, rfl, hq, by show va_P _ _ _ t.heap; rw [ht]; exact hP⟩, hS.F ht⟩) hS.2.2 hd E.lk
theorem r_lret {Q : Int64 → ST → Prop} {x : Int64} (E : Ev p R s m args meth c X (xA X) nL 0 0 cc own) (hr : meth.sig.returnType = some .long) (hd : decode cc pc = .ok (.lreturn, 1)) (hq : Q x σ) : G p l e R s m args below meth c X (xA X) nL 0 0 (MQ below (va_Ql Q (Bw X) (xA X)) args s 0 0 (xA X)) σ pc lv [.long x] :=
  fun H locs ls hP hS hl => W.lret (v := x) E.x E.b hr (fun t ht hW => ⟨⟨x, σ, rfl, hq, by show va_P _ _ _ t.heap; rw [ht]; exact hP⟩, hS.F ht⟩) hS.2.2 hd E.lk
theorem r_vret {Q : ST → Prop} (E : Ev p R s m args meth c X (xA X) nL 0 0 cc own) (hr : meth.sig.returnType = none) (hd : decode cc pc = .ok (.return_, 1)) (hq : Q σ) : G p l e R s m args below meth c X (xA X) nL 0 0 (MQ below (va_Qv Q (Bw X) (xA X)) args s 0 0 (xA X)) σ pc lv [] :=
  fun H locs ls hP hS hl => W.vret E.x E.b hr (fun t ht hW => ⟨⟨σ, rfl, hq, by show va_P _ _ _ t.heap; rw [ht]; exact hP⟩, hS.F ht⟩) hS.2.2 hd E.lk
theorem r_oret {Q : Option Nat → ST → Prop} (r : Option Nat) {n : String} {v : Value} (E : Ev p R s m args meth c X (xA X) nL 0 0 cc own) (hr : meth.sig.returnType = some (.object n)) (hd : decode cc pc = .ok (.areturn, 1)) (hv : rv X r = v) (hq : Q r σ) : G p l e R s m args below meth c X (xA X) nL 0 0 (MQ below (va_Qo X Q) args s 0 0 (xA X)) σ pc lv [v] := by
  subst hv
  exact fun H locs ls hP hS hl => W.aret (v := rv X r) E.x E.b hr (Or.inl ⟨n, rfl⟩) (by cases r <;> simp [rv]) (fun t ht hW => ⟨⟨r, σ, rfl, hq, by show va_P _ _ _ t.heap; rw [ht]; exact hP⟩, hS.F ht⟩) hS.2.2 hd E.lk
/-- a method's entry -/
theorem metG {y : MethodName} {bytes : ByteArray} {maxL k : Nat} {ret : Option FieldType} {rm : Room} {As : List Value} {Qc : Array Value → State → Outcome → State → Prop} {lv0 : List (Option Value)} (hy : plainName y.cls = true) (ho : y.cls = own) (hk : Nat.ble (lg_sl As).length maxL = true) (hlv : lvE As ++ List.replicate k none = lv0)
    (body : ∀ (p : Program) (e : Env) (s : State) (m : MethodId) (args : Array Value) (below : List Frame) (meth : Method) (c : Code), Ev p rm s m args meth c X (xA X) maxL 0 0 bytes own → meth.sig.returnType = ret → G p l e rm s m args below meth c X (xA X) maxL 0 0 (MQ below Qc args s 0 0 (xA X)) σ 0 lv0 []) : Met l y (wS y bytes maxL ret) rm (va_Pc As (Pw X σ)) Qc 0 0 (xA X) := by
  refine Met.ofW (cc := bytes) (maxL := maxL) (ret := ret) hy rfl ?_
  intro p e s m args below meth c s₁ B hml hv
  obtain ⟨rfl, hP, hK, hSb, hap⟩ := hv
  have hts := atoms_spec (ws := wS y bytes maxL ret) B.pre
  have hown : s.vm.findClass own = some m.cls := ho ▸ findClass_of_methodNamed B.named
  have E : Ev p rm s m As.toArray meth c X (xA X) maxL 0 0 bytes own := ⟨B.exec, B.bytes, hml, hown, fun w h => hts w (List.mem_cons_of_mem _ h), hK, hSb, hap, fun k h => ⟨k, h, rfl⟩, B.notSynchronized, Nat.zero_le _, Nat.zero_le _⟩
  rw [lg_entry_eq]
  subst hlv
  exact body p e s m As.toArray below meth c E B.returns s.heap [] _ hP va_S.rf (Lv.entry As (Nat.le_of_ble_eq_true hk))
/-- Math.max, Math.min -/
theorem r_mmax (E : Ev p R s m args meth c X A nL cells slots cc own) {index : Nat} {x y : Int32} (h1 : Cond.methodLink own index Lib.Math.max.name ∈ WS) (h2 : Cond.static Lib.Math.max.name ∈ WS) (h3 : Cond.initialized "java/lang/Math" ∈ WS) (h4 : Cond.code Lib.Math.max.name Lib.Math.max.code 2 (some .int) ∈ WS) (hf : Nat.ble 1 R.frames = true) (hlo : Nat.ble 21 R.locals = true) (h8 : cat8 st = true) (hd : decode cc pc = .ok (.invokestatic index, 3))
    (kk : G p l e R s m args below meth c X A nL cells slots Qf σ (pc + 3) lv (.int (if x < y then y else x) :: st)) : G p l e R s m args below meth c X A nL cells slots Qf σ pc lv (.int y :: .int x :: st) :=
  fun H locs ls hP hS hl => va_mmax E.x E.b (E.ml.trans hl.1.symm) E.ow (E.ts _ h1) (E.ts _ h2) (E.ts _ h3) (E.ts _ h4) (Nat.le_of_ble_eq_true hf) (by have := Nat.le_of_ble_eq_true hlo; have := Nat.le_of_ble_eq_true h8; omega) E.rc E.rs hd (kk H locs ls hP hS hl)
theorem r_mmin (E : Ev p R s m args meth c X A nL cells slots cc own) {index : Nat} {x y : Int32} (h1 : Cond.methodLink own index Lib.Math.min.name ∈ WS) (h2 : Cond.static Lib.Math.min.name ∈ WS) (h3 : Cond.initialized "java/lang/Math" ∈ WS) (h4 : Cond.code Lib.Math.min.name Lib.Math.min.code 2 (some .int) ∈ WS) (hf : Nat.ble 1 R.frames = true) (hlo : Nat.ble 21 R.locals = true) (h8 : cat8 st = true) (hd : decode cc pc = .ok (.invokestatic index, 3))
    (kk : G p l e R s m args below meth c X A nL cells slots Qf σ (pc + 3) lv (.int (if y < x then y else x) :: st)) : G p l e R s m args below meth c X A nL cells slots Qf σ pc lv (.int y :: .int x :: st) :=
  fun H locs ls hP hS hl => va_mmin E.x E.b (E.ml.trans hl.1.symm) E.ow (E.ts _ h1) (E.ts _ h2) (E.ts _ h3) (E.ts _ h4) (Nat.le_of_ble_eq_true hf) (by have := Nat.le_of_ble_eq_true hlo; have := Nat.le_of_ble_eq_true h8; omega) E.rc E.rs hd (kk H locs ls hP hS hl)
theorem r_ldcS (E : Ev p R s m args meth c X A nL cells slots cc own) {index i : Nat} {tx : String} (hi : i < 7) (ho : RX2 = own) (ht : txL.getD i (0, "") = (index, tx)) (hd : decode cc pc = .ok (.ldc index, 2)) (kk : G p l e R s m args below meth c X A nL cells slots Qf σ (pc + 2) lv (.ref (xk X i) :: st)) : G p l e R s m args below meth c X A nL cells slots Qf σ pc lv st := by
  intro H locs ls hP hS hl
  have h := E.kb.2.2.2 i hi
  rw [ht] at h
  subst ho
  exact va_ldcS E.x E.b E.ow h hd (kk H locs ls hP hS hl)
end GC
