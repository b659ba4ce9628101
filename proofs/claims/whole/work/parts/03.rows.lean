/-! THE WALK OVER σ: a row an instruction; the heap, the locals and the frame are inside G -/
section GR
variable {p : Program} {l : Launch} {e : Env} {R : Room} {s : State} {m : MethodId} {args : Array Value} {below : List Frame} {meth : Method} {c : Code} {X : XT} {A : Nat → Prop} {nL cells slots : Nat} {Qf : State → Prop} {cc : ByteArray} {own : String}
def G (p : Program) (l : Launch) (e : Env) (R : Room) (s : State) (m : MethodId) (args : Array Value) (below : List Frame) (meth : Method) (c : Code) (X : XT) (A : Nat → Prop) (nL cells slots : Nat) (Qf : State → Prop) (σ : ST) (pc : Nat) (lv : List (Option Value)) (st : List Value) : Prop :=
  ∀ (H : Heap) (locs : List Loc) (ls : Array Slot), va_P (xD X) vwCl (wl X σ) H → va_S A s.heap H locs → Lv ls nL lv → W p l e R s m args below meth c H locs cells slots Qf (F0 m pc ls st)
/-- what stands all the way through a method -/
def Ev (p : Program) (R : Room) (s : State) (m : MethodId) (args : Array Value) (meth : Method) (c : Code) (X : XT) (A : Nat → Prop) (nL cells slots : Nat) (cc : ByteArray) (own : String) : Prop :=
  p.tables.exec = Jvm.exec ∧ c.code = cc ∧ c.maxLocals = nL ∧ s.vm.findClass own = some m.cls ∧ (∀ w ∈ WS, w.before args s = true) ∧ Kb X s ∧ Sb X A s s.heap ∧ (∀ i j, i < 90 → j < 90 → xa X i = xa X j → i = j) ∧ (∀ k, k < 90 → A (xa X k)) ∧ meth.locks = false ∧ cells ≤ R.cells ∧ slots ≤ R.slots
theorem Ev.x (E : Ev p R s m args meth c X A nL cells slots cc own) : p.tables.exec = Jvm.exec := E.1
theorem Ev.b (E : Ev p R s m args meth c X A nL cells slots cc own) : c.code = cc := E.2.1
theorem Ev.ml (E : Ev p R s m args meth c X A nL cells slots cc own) : c.maxLocals = nL := E.2.2.1
theorem Ev.ow (E : Ev p R s m args meth c X A nL cells slots cc own) : s.vm.findClass own = some m.cls := E.2.2.2.1
theorem Ev.ts (E : Ev p R s m args meth c X A nL cells slots cc own) : ∀ w ∈ WS, w.before args s = true := E.2.2.2.2.1
theorem Ev.kb (E : Ev p R s m args meth c X A nL cells slots cc own) : Kb X s := E.2.2.2.2.2.1
theorem Ev.sb (E : Ev p R s m args meth c X A nL cells slots cc own) : Sb X A s s.heap := E.2.2.2.2.2.2.1
theorem Ev.ap (E : Ev p R s m args meth c X A nL cells slots cc own) : ∀ i j, i < 90 → j < 90 → xa X i = xa X j → i = j := E.2.2.2.2.2.2.2.1
theorem Ev.ia (E : Ev p R s m args meth c X A nL cells slots cc own) : ∀ k, k < 90 → A (xa X k) := E.2.2.2.2.2.2.2.2.1
theorem Ev.lk (E : Ev p R s m args meth c X A nL cells slots cc own) : meth.locks = false := E.2.2.2.2.2.2.2.2.2.1
theorem Ev.rc (E : Ev p R s m args meth c X A nL cells slots cc own) : cells ≤ R.cells := E.2.2.2.2.2.2.2.2.2.2.1
theorem Ev.rs (E : Ev p R s m args meth c X A nL cells slots cc own) : slots ≤ R.slots := E.2.2.2.2.2.2.2.2.2.2.2
theorem Ev.D (E : Ev p R s m args meth c X A nL cells slots cc own) (σ : ST) : va_D A (wl X σ) := wl_D σ E.ap E.ia
variable {σ : ST} {pc : Nat} {lv lv' : List (Option Value)} {st : List Value}
theorem r_iconst (E : Ev p R s m args meth c X A nL cells slots cc own) {n : Int} {v : Int32} (hd : decode cc pc = .ok (.iconst n, 1)) (hv : Int32.ofInt n = v) (k : G p l e R s m args below meth c X A nL cells slots Qf σ (pc + 1) lv (.int v :: st)) : G p l e R s m args below meth c X A nL cells slots Qf σ pc lv st :=
  fun H locs ls hP hS hl => lv_iconst E.x E.b hd hv (k H locs ls hP hS hl)
theorem r_bipush (E : Ev p R s m args meth c X A nL cells slots cc own) {n : Int} {v : Int32} (hd : decode cc pc = .ok (.bipush n, 2)) (hv : (Int8.ofInt n).toInt32 = v) (k : G p l e R s m args below meth c X A nL cells slots Qf σ (pc + 2) lv (.int v :: st)) : G p l e R s m args below meth c X A nL cells slots Qf σ pc lv st :=
  fun H locs ls hP hS hl => lv_bipush E.x E.b hd hv (k H locs ls hP hS hl)
theorem r_sipush (E : Ev p R s m args meth c X A nL cells slots cc own) {n : Int} {v : Int32} (hd : decode cc pc = .ok (.sipush n, 3)) (hv : (Int16.ofInt n).toInt32 = v) (k : G p l e R s m args below meth c X A nL cells slots Qf σ (pc + 3) lv (.int v :: st)) : G p l e R s m args below meth c X A nL cells slots Qf σ pc lv st :=
  fun H locs ls hP hS hl => lv_sipush E.x E.b hd hv (k H locs ls hP hS hl)
theorem r_lconst (E : Ev p R s m args meth c X A nL cells slots cc own) {n : Fin 2} {v : Int64} (hd : decode cc pc = .ok (.lconst n, 1)) (hv : Int64.ofNat (n : Nat) = v) (k : G p l e R s m args below meth c X A nL cells slots Qf σ (pc + 1) lv (.long v :: st)) : G p l e R s m args below meth c X A nL cells slots Qf σ pc lv st :=
  fun H locs ls hP hS hl => lv_lconst E.x E.b hd hv (k H locs ls hP hS hl)
theorem r_ldc (E : Ev p R s m args meth c X A nL cells slots cc own) {index : Nat} {v : Int32} (hw : Cond.constant own index v ∈ WS) (hd : decode cc pc = .ok (.ldc index, 2)) (k : G p l e R s m args below meth c X A nL cells slots Qf σ (pc + 2) lv (.int v :: st)) : G p l e R s m args below meth c X A nL cells slots Qf σ pc lv st :=
  fun H locs ls hP hS hl => lv_ldc E.x E.b E.ow (E.ts _ hw) hd (k H locs ls hP hS hl)
theorem r_ldc2 (E : Ev p R s m args meth c X A nL cells slots cc own) {index : Nat} {v : Int64} (hw : Cond.constantLong own index v ∈ WS) (hd : decode cc pc = .ok (.ldc2_w index, 3)) (k : G p l e R s m args below meth c X A nL cells slots Qf σ (pc + 3) lv (.long v :: st)) : G p l e R s m args below meth c X A nL cells slots Qf σ pc lv st :=
  fun H locs ls hP hS hl => lv_ldc2 E.x E.b E.ow (E.ts _ hw) hd (k H locs ls hP hS hl)
theorem r_iload_n (E : Ev p R s m args meth c X A nL cells slots cc own) {j : Fin 4} {i : Nat} {x : Int32} (hd : decode cc pc = .ok (.iload_n j, 1)) (hi : (j : Nat) = i) (hg : lv[i]? = some (some (.int x))) (k : G p l e R s m args below meth c X A nL cells slots Qf σ (pc + 1) lv (.int x :: st)) : G p l e R s m args below meth c X A nL cells slots Qf σ pc lv st :=
  fun H locs ls hP hS hl => lv_iload_n E.x E.b hd hi (hl.2.2 _ _ hg) (k H locs ls hP hS hl)
theorem r_iload (E : Ev p R s m args meth c X A nL cells slots cc own) {i : Nat} {x : Int32} (hd : decode cc pc = .ok (.iload i, 2)) (hg : lv[i]? = some (some (.int x))) (k : G p l e R s m args below meth c X A nL cells slots Qf σ (pc + 2) lv (.int x :: st)) : G p l e R s m args below meth c X A nL cells slots Qf σ pc lv st :=
  fun H locs ls hP hS hl => lv_iload E.x E.b hd (hl.2.2 _ _ hg) (k H locs ls hP hS hl)
theorem r_lload_n (E : Ev p R s m args meth c X A nL cells slots cc own) {j : Fin 4} {i : Nat} {x : Int64} (hd : decode cc pc = .ok (.lload_n j, 1)) (hi : (j : Nat) = i) (hg : lv[i]? = some (some (.long x))) (k : G p l e R s m args below meth c X A nL cells slots Qf σ (pc + 1) lv (.long x :: st)) : G p l e R s m args below meth c X A nL cells slots Qf σ pc lv st :=
  fun H locs ls hP hS hl => lv_lload_n E.x E.b hd hi (hl.2.2 _ _ hg) (k H locs ls hP hS hl)
theorem r_lload (E : Ev p R s m args meth c X A nL cells slots cc own) {i : Nat} {x : Int64} (hd : decode cc pc = .ok (.lload i, 2)) (hg : lv[i]? = some (some (.long x))) (k : G p l e R s m args below meth c X A nL cells slots Qf σ (pc + 2) lv (.long x :: st)) : G p l e R s m args below meth c X A nL cells slots Qf σ pc lv st :=
  fun H locs ls hP hS hl => lv_lload E.x E.b hd (hl.2.2 _ _ hg) (k H locs ls hP hS hl)
theorem r_aload_n (E : Ev p R s m args meth c X A nL cells slots cc own) {j : Fin 4} {i : Nat} {x : Nat} (hd : decode cc pc = .ok (.aload_n j, 1)) (hi : (j : Nat) = i) (hg : lv[i]? = some (some (.ref x))) (k : G p l e R s m args below meth c X A nL cells slots Qf σ (pc + 1) lv (.ref x :: st)) : G p l e R s m args below meth c X A nL cells slots Qf σ pc lv st :=
  fun H locs ls hP hS hl => lv_aload_n E.x E.b hd hi (hl.2.2 _ _ hg) (k H locs ls hP hS hl)
theorem r_aload (E : Ev p R s m args meth c X A nL cells slots cc own) {i : Nat} {x : Nat} (hd : decode cc pc = .ok (.aload i, 2)) (hg : lv[i]? = some (some (.ref x))) (k : G p l e R s m args below meth c X A nL cells slots Qf σ (pc + 2) lv (.ref x :: st)) : G p l e R s m args below meth c X A nL cells slots Qf σ pc lv st :=
  fun H locs ls hP hS hl => lv_aload E.x E.b hd (hl.2.2 _ _ hg) (k H locs ls hP hS hl)
theorem r_aload_nN (E : Ev p R s m args meth c X A nL cells slots cc own) {j : Fin 4} {i : Nat} (hd : decode cc pc = .ok (.aload_n j, 1)) (hi : (j : Nat) = i) (hg : lv[i]? = some (some .null)) (k : G p l e R s m args below meth c X A nL cells slots Qf σ (pc + 1) lv (.null :: st)) : G p l e R s m args below meth c X A nL cells slots Qf σ pc lv st :=
  fun H locs ls hP hS hl => lv_aload_nN E.x E.b hd hi (hl.2.2 _ _ hg) (k H locs ls hP hS hl)
theorem r_istore_n (E : Ev p R s m args meth c X A nL cells slots cc own) {j : Fin 4} {i : Nat} {x : Int32} (hd : decode cc pc = .ok (.istore_n j, 1)) (hi : (j : Nat) = i) (hn : Nat.ble (i + 1) nL = true) (hp : pv lv i = true) (hs : lv.set i (some (.int x)) = lv') (k : G p l e R s m args below meth c X A nL cells slots Qf σ (pc + 1) lv' st) : G p l e R s m args below meth c X A nL cells slots Qf σ pc lv (.int x :: st) := by
  subst hi
  intro H locs ls hP hS hl T hT Z
  obtain ⟨ls', e', h'⟩ := hl.store1 (v := .int x) (Nat.le_of_ble_eq_true hn) rfl hp
  obtain ⟨t, a, b⟩ := k H locs ls' hP hS (hs ▸ h') T hT Z
  refine ⟨t, ?_, b⟩
  jvm_step Z.here [Z.here.top, ↓top_set Z.here.top, E.x, E.b, hd, e']
  exact a
theorem r_istore (E : Ev p R s m args meth c X A nL cells slots cc own) {i : Nat} {x : Int32} (hd : decode cc pc = .ok (.istore i, 2)) (hn : Nat.ble (i + 1) nL = true) (hp : pv lv i = true) (hs : lv.set i (some (.int x)) = lv') (k : G p l e R s m args below meth c X A nL cells slots Qf σ (pc + 2) lv' st) : G p l e R s m args below meth c X A nL cells slots Qf σ pc lv (.int x :: st) := by
  intro H locs ls hP hS hl T hT Z
  obtain ⟨ls', e', h'⟩ := hl.store1 (v := .int x) (Nat.le_of_ble_eq_true hn) rfl hp
  obtain ⟨t, a, b⟩ := k H locs ls' hP hS (hs ▸ h') T hT Z
  refine ⟨t, ?_, b⟩
  jvm_step Z.here [Z.here.top, ↓top_set Z.here.top, E.x, E.b, hd, e']
  exact a
theorem r_lstore_n (E : Ev p R s m args meth c X A nL cells slots cc own) {j : Fin 4} {i : Nat} {x : Int64} (hd : decode cc pc = .ok (.lstore_n j, 1)) (hi : (j : Nat) = i) (hn : Nat.ble (i + 2) nL = true) (hp : pv lv i = true) (hs : (lv.set i (some (.long x))).set (i + 1) none = lv') (k : G p l e R s m args below meth c X A nL cells slots Qf σ (pc + 1) lv' st) : G p l e R s m args below meth c X A nL cells slots Qf σ pc lv (.long x :: st) := by
  subst hi
  intro H locs ls hP hS hl T hT Z
  obtain ⟨ls', e', h'⟩ := hl.store2 (v := .long x) (Nat.le_of_ble_eq_true hn) rfl hp
  obtain ⟨t, a, b⟩ := k H locs ls' hP hS (hs ▸ h') T hT Z
  refine ⟨t, ?_, b⟩
  jvm_step Z.here [Z.here.top, ↓top_set Z.here.top, E.x, E.b, hd, e']
  exact a
theorem r_astore_n (E : Ev p R s m args meth c X A nL cells slots cc own) {j : Fin 4} {i : Nat} {x : Nat} (hd : decode cc pc = .ok (.astore_n j, 1)) (hi : (j : Nat) = i) (hn : Nat.ble (i + 1) nL = true) (hp : pv lv i = true) (hs : lv.set i (some (.ref x)) = lv') (k : G p l e R s m args below meth c X A nL cells slots Qf σ (pc + 1) lv' st) : G p l e R s m args below meth c X A nL cells slots Qf σ pc lv (.ref x :: st) := by
  subst hi
  intro H locs ls hP hS hl T hT Z
  obtain ⟨ls', e', h'⟩ := hl.store1 (v := .ref x) (Nat.le_of_ble_eq_true hn) rfl hp
  obtain ⟨t, a, b⟩ := k H locs ls' hP hS (hs ▸ h') T hT Z
  refine ⟨t, ?_, b⟩
  jvm_step Z.here [Z.here.top, ↓top_set Z.here.top, E.x, E.b, hd, e', Value.isRef]
  exact a
theorem r_astore (E : Ev p R s m args meth c X A nL cells slots cc own) {i : Nat} {x : Nat} (hd : decode cc pc = .ok (.astore i, 2)) (hn : Nat.ble (i + 1) nL = true) (hp : pv lv i = true) (hs : lv.set i (some (.ref x)) = lv') (k : G p l e R s m args below meth c X A nL cells slots Qf σ (pc + 2) lv' st) : G p l e R s m args below meth c X A nL cells slots Qf σ pc lv (.ref x :: st) := by
  intro H locs ls hP hS hl T hT Z
  obtain ⟨ls', e', h'⟩ := hl.store1 (v := .ref x) (Nat.le_of_ble_eq_true hn) rfl hp
  obtain ⟨t, a, b⟩ := k H locs ls' hP hS (hs ▸ h') T hT Z
  refine ⟨t, ?_, b⟩
  jvm_step Z.here [Z.here.top, ↓top_set Z.here.top, E.x, E.b, hd, e', Value.isRef]
  exact a
theorem r_astore_nN (E : Ev p R s m args meth c X A nL cells slots cc own) {j : Fin 4} {i : Nat} (hd : decode cc pc = .ok (.astore_n j, 1)) (hi : (j : Nat) = i) (hn : Nat.ble (i + 1) nL = true) (hp : pv lv i = true) (hs : lv.set i (some .null) = lv') (k : G p l e R s m args below meth c X A nL cells slots Qf σ (pc + 1) lv' st) : G p l e R s m args below meth c X A nL cells slots Qf σ pc lv (.null :: st) := by
  subst hi
  intro H locs ls hP hS hl T hT Z
  obtain ⟨ls', e', h'⟩ := hl.store1 (v := .null) (Nat.le_of_ble_eq_true hn) rfl hp
  obtain ⟨t, a, b⟩ := k H locs ls' hP hS (hs ▸ h') T hT Z
  refine ⟨t, ?_, b⟩
  jvm_step Z.here [Z.here.top, ↓top_set Z.here.top, E.x, E.b, hd, e', Value.isRef]
  exact a
theorem r_iinc (E : Ev p R s m args meth c X A nL cells slots cc own) {i : Nat} {n : Int} {x v : Int32} (hd : decode cc pc = .ok (.iinc i n, 3)) (hg : lv[i]? = some (some (.int x))) (hv : Int32.ofInt n = v) (hn : Nat.ble (i + 1) nL = true) (hp : pv lv i = true) (hs : lv.set i (some (.int (x + v))) = lv') (k : G p l e R s m args below meth c X A nL cells slots Qf σ (pc + 3) lv' st) : G p l e R s m args below meth c X A nL cells slots Qf σ pc lv st := by
  subst hv
  intro H locs ls hP hS hl T hT Z
  obtain ⟨ls', e', h'⟩ := hl.store1 (v := .int (x + Int32.ofInt n)) (Nat.le_of_ble_eq_true hn) rfl hp
  have hgg := hl.2.2 _ _ hg
  obtain ⟨t, a, b⟩ := k H locs ls' hP hS (hs ▸ h') T hT Z
  refine ⟨t, ?_, b⟩
  jvm_step Z.here [Z.here.top, ↓top_set Z.here.top, E.x, E.b, hd, hgg, e']
  exact a
theorem r_iadd (E : Ev p R s m args meth c X A nL cells slots cc own) {x y : Int32} (hd : decode cc pc = .ok (.iadd, 1)) (k : G p l e R s m args below meth c X A nL cells slots Qf σ (pc + 1) lv (.int (x + y) :: st)) : G p l e R s m args below meth c X A nL cells slots Qf σ pc lv (.int y :: .int x :: st) :=
  fun H locs ls hP hS hl => lv_iadd E.x E.b hd (k H locs ls hP hS hl)
theorem r_isub (E : Ev p R s m args meth c X A nL cells slots cc own) {x y : Int32} (hd : decode cc pc = .ok (.isub, 1)) (k : G p l e R s m args below meth c X A nL cells slots Qf σ (pc + 1) lv (.int (x - y) :: st)) : G p l e R s m args below meth c X A nL cells slots Qf σ pc lv (.int y :: .int x :: st) :=
  fun H locs ls hP hS hl => lv_isub E.x E.b hd (k H locs ls hP hS hl)
theorem r_imul (E : Ev p R s m args meth c X A nL cells slots cc own) {x y : Int32} (hd : decode cc pc = .ok (.imul, 1)) (k : G p l e R s m args below meth c X A nL cells slots Qf σ (pc + 1) lv (.int (x * y) :: st)) : G p l e R s m args below meth c X A nL cells slots Qf σ pc lv (.int y :: .int x :: st) :=
  fun H locs ls hP hS hl => lv_imul E.x E.b hd (k H locs ls hP hS hl)
theorem r_iand (E : Ev p R s m args meth c X A nL cells slots cc own) {x y : Int32} (hd : decode cc pc = .ok (.iand, 1)) (k : G p l e R s m args below meth c X A nL cells slots Qf σ (pc + 1) lv (.int (x &&& y) :: st)) : G p l e R s m args below meth c X A nL cells slots Qf σ pc lv (.int y :: .int x :: st) :=
  fun H locs ls hP hS hl => lv_iand E.x E.b hd (k H locs ls hP hS hl)
theorem r_ixor (E : Ev p R s m args meth c X A nL cells slots cc own) {x y : Int32} (hd : decode cc pc = .ok (.ixor, 1)) (k : G p l e R s m args below meth c X A nL cells slots Qf σ (pc + 1) lv (.int (x ^^^ y) :: st)) : G p l e R s m args below meth c X A nL cells slots Qf σ pc lv (.int y :: .int x :: st) :=
  fun H locs ls hP hS hl => lv_ixor E.x E.b hd (k H locs ls hP hS hl)
theorem r_idiv (E : Ev p R s m args meth c X A nL cells slots cc own) {x y : Int32} (hd : decode cc pc = .ok (.idiv, 1)) (hne : ¬ y = 0) (k : G p l e R s m args below meth c X A nL cells slots Qf σ (pc + 1) lv (.int (x / y) :: st)) : G p l e R s m args below meth c X A nL cells slots Qf σ pc lv (.int y :: .int x :: st) :=
  fun H locs ls hP hS hl => lv_idiv E.x E.b hd hne (k H locs ls hP hS hl)
theorem r_irem (E : Ev p R s m args meth c X A nL cells slots cc own) {x y : Int32} (hd : decode cc pc = .ok (.irem, 1)) (hne : ¬ y = 0) (k : G p l e R s m args below meth c X A nL cells slots Qf σ (pc + 1) lv (.int (x - x / y * y) :: st)) : G p l e R s m args below meth c X A nL cells slots Qf σ pc lv (.int y :: .int x :: st) :=
  fun H locs ls hP hS hl => lv_irem E.x E.b hd hne (k H locs ls hP hS hl)
theorem r_ineg (E : Ev p R s m args meth c X A nL cells slots cc own) {x : Int32} (hd : decode cc pc = .ok (.ineg, 1)) (k : G p l e R s m args below meth c X A nL cells slots Qf σ (pc + 1) lv (.int (-x) :: st)) : G p l e R s m args below meth c X A nL cells slots Qf σ pc lv (.int x :: st) :=
  fun H locs ls hP hS hl => lv_ineg E.x E.b hd (k H locs ls hP hS hl)
theorem r_ishl (E : Ev p R s m args meth c X A nL cells slots cc own) {x y : Int32} (hd : decode cc pc = .ok (.ishl, 1)) (k : G p l e R s m args below meth c X A nL cells slots Qf σ (pc + 1) lv (.int (x <<< (y &&& 31)) :: st)) : G p l e R s m args below meth c X A nL cells slots Qf σ pc lv (.int y :: .int x :: st) :=
  fun H locs ls hP hS hl => lv_ishl E.x E.b hd (k H locs ls hP hS hl)
theorem r_ishr (E : Ev p R s m args meth c X A nL cells slots cc own) {x y : Int32} (hd : decode cc pc = .ok (.ishr, 1)) (k : G p l e R s m args below meth c X A nL cells slots Qf σ (pc + 1) lv (.int (x >>> (y &&& 31)) :: st)) : G p l e R s m args below meth c X A nL cells slots Qf σ pc lv (.int y :: .int x :: st) :=
  fun H locs ls hP hS hl => lv_ishr E.x E.b hd (k H locs ls hP hS hl)
theorem r_iushr (E : Ev p R s m args meth c X A nL cells slots cc own) {x y : Int32} (hd : decode cc pc = .ok (.iushr, 1)) (k : G p l e R s m args below meth c X A nL cells slots Qf σ (pc + 1) lv (.int ((x.toUInt32 >>> (y.toUInt32 &&& Int32.toUInt32 31)).toInt32) :: st)) : G p l e R s m args below meth c X A nL cells slots Qf σ pc lv (.int y :: .int x :: st) :=
  fun H locs ls hP hS hl => lv_iushr E.x E.b hd rfl (k H locs ls hP hS hl)
theorem r_i2l (E : Ev p R s m args meth c X A nL cells slots cc own) {x : Int32} (hd : decode cc pc = .ok (.i2l, 1)) (k : G p l e R s m args below meth c X A nL cells slots Qf σ (pc + 1) lv (.long x.toInt64 :: st)) : G p l e R s m args below meth c X A nL cells slots Qf σ pc lv (.int x :: st) :=
  fun H locs ls hP hS hl => lv_i2l E.x E.b hd rfl (k H locs ls hP hS hl)
theorem r_l2i (E : Ev p R s m args meth c X A nL cells slots cc own) {x : Int64} (hd : decode cc pc = .ok (.l2i, 1)) (k : G p l e R s m args below meth c X A nL cells slots Qf σ (pc + 1) lv (.int x.toInt32 :: st)) : G p l e R s m args below meth c X A nL cells slots Qf σ pc lv (.long x :: st) :=
  fun H locs ls hP hS hl => lv_l2i E.x E.b hd rfl (k H locs ls hP hS hl)
theorem r_i2b (E : Ev p R s m args meth c X A nL cells slots cc own) {x : Int32} (hd : decode cc pc = .ok (.i2b, 1)) (k : G p l e R s m args below meth c X A nL cells slots Qf σ (pc + 1) lv (.int x.toInt8.toInt32 :: st)) : G p l e R s m args below meth c X A nL cells slots Qf σ pc lv (.int x :: st) :=
  fun H locs ls hP hS hl => lv_i2b E.x E.b hd rfl (k H locs ls hP hS hl)
theorem r_lshl (E : Ev p R s m args meth c X A nL cells slots cc own) {x : Int64} {y : Int32} (hd : decode cc pc = .ok (.lshl, 1)) (k : G p l e R s m args below meth c X A nL cells slots Qf σ (pc + 1) lv (.long (x <<< (y.toInt64 &&& 63)) :: st)) : G p l e R s m args below meth c X A nL cells slots Qf σ pc lv (.int y :: .long x :: st) :=
  fun H locs ls hP hS hl => lv_lshl E.x E.b hd rfl (k H locs ls hP hS hl)
theorem r_lshr (E : Ev p R s m args meth c X A nL cells slots cc own) {x : Int64} {y : Int32} (hd : decode cc pc = .ok (.lshr, 1)) (k : G p l e R s m args below meth c X A nL cells slots Qf σ (pc + 1) lv (.long (x >>> (y.toInt64 &&& 63)) :: st)) : G p l e R s m args below meth c X A nL cells slots Qf σ pc lv (.int y :: .long x :: st) :=
  fun H locs ls hP hS hl => lv_lshr E.x E.b hd rfl (k H locs ls hP hS hl)
theorem r_land (E : Ev p R s m args meth c X A nL cells slots cc own) {x y : Int64} (hd : decode cc pc = .ok (.land, 1)) (k : G p l e R s m args below meth c X A nL cells slots Qf σ (pc + 1) lv (.long (x &&& y) :: st)) : G p l e R s m args below meth c X A nL cells slots Qf σ pc lv (.long y :: .long x :: st) :=
  fun H locs ls hP hS hl => lv_land E.x E.b hd (k H locs ls hP hS hl)
theorem r_lor (E : Ev p R s m args meth c X A nL cells slots cc own) {x y : Int64} (hd : decode cc pc = .ok (.lor, 1)) (k : G p l e R s m args below meth c X A nL cells slots Qf σ (pc + 1) lv (.long (x ||| y) :: st)) : G p l e R s m args below meth c X A nL cells slots Qf σ pc lv (.long y :: .long x :: st) :=
  fun H locs ls hP hS hl => lv_lor E.x E.b hd (k H locs ls hP hS hl)
theorem r_lcmp (E : Ev p R s m args meth c X A nL cells slots cc own) {x y : Int64} (hd : decode cc pc = .ok (.lcmp, 1)) (k : G p l e R s m args below meth c X A nL cells slots Qf σ (pc + 1) lv (.int (lg_cmp x y) :: st)) : G p l e R s m args below meth c X A nL cells slots Qf σ pc lv (.long y :: .long x :: st) :=
  fun H locs ls hP hS hl => W.lcmp E.x E.b hd (k H locs ls hP hS hl)
theorem r_dup (E : Ev p R s m args meth c X A nL cells slots cc own) {v : Value} (hd : decode cc pc = .ok (.dup, 1)) (hc : v.category = 1) (k : G p l e R s m args below meth c X A nL cells slots Qf σ (pc + 1) lv (v :: v :: st)) : G p l e R s m args below meth c X A nL cells slots Qf σ pc lv (v :: st) :=
  fun H locs ls hP hS hl => lv_dup E.x E.b hd hc (k H locs ls hP hS hl)
theorem r_dup2 (E : Ev p R s m args meth c X A nL cells slots cc own) {v w : Value} (hd : decode cc pc = .ok (.dup2, 1)) (hc : v.category = 1) (hc2 : w.category = 1) (k : G p l e R s m args below meth c X A nL cells slots Qf σ (pc + 1) lv (v :: w :: v :: w :: st)) : G p l e R s m args below meth c X A nL cells slots Qf σ pc lv (v :: w :: st) :=
  fun H locs ls hP hS hl => lv_dup2_11 E.x E.b hd hc hc2 (k H locs ls hP hS hl)
theorem r_pop (E : Ev p R s m args meth c X A nL cells slots cc own) {v : Value} (hd : decode cc pc = .ok (.pop, 1)) (hc : v.category = 1) (k : G p l e R s m args below meth c X A nL cells slots Qf σ (pc + 1) lv st) : G p l e R s m args below meth c X A nL cells slots Qf σ pc lv (v :: st) :=
  fun H locs ls hP hS hl => lv_pop E.x E.b hd hc (k H locs ls hP hS hl)
theorem r_null (E : Ev p R s m args meth c X A nL cells slots cc own) (hd : decode cc pc = .ok (.aconst_null, 1)) (k : G p l e R s m args below meth c X A nL cells slots Qf σ (pc + 1) lv (.null :: st)) : G p l e R s m args below meth c X A nL cells slots Qf σ pc lv st :=
  fun H locs ls hP hS hl => lv_null E.x E.b hd (k H locs ls hP hS hl)
theorem r_goto (E : Ev p R s m args meth c X A nL cells slots cc own) {off : Int} {tgt : Nat} (hd : decode cc pc = .ok (.goto off, 3)) (ht : (pc : Int) + off = (tgt : Int)) (k : G p l e R s m args below meth c X A nL cells slots Qf σ tgt lv st) : G p l e R s m args below meth c X A nL cells slots Qf σ pc lv st :=
  fun H locs ls hP hS hl => lv_goto E.x E.b hd ht (k H locs ls hP hS hl)
theorem r_ifnonnull (E : Ev p R s m args meth c X A nL cells slots cc own) {x : Nat} {off : Int} {tgt : Nat} (hd : decode cc pc = .ok (.ifnonnull off, 3)) (ht : (pc : Int) + off = (tgt : Int)) (k : G p l e R s m args below meth c X A nL cells slots Qf σ tgt lv st) : G p l e R s m args below meth c X A nL cells slots Qf σ pc lv (.ref x :: st) :=
  fun H locs ls hP hS hl => lv_ifnonnull E.x E.b hd ht (k H locs ls hP hS hl)
theorem r_ifnull (E : Ev p R s m args meth c X A nL cells slots cc own) {x : Nat} {off : Int} (hd : decode cc pc = .ok (.ifnull off, 3)) (k : G p l e R s m args below meth c X A nL cells slots Qf σ (pc + 3) lv st) : G p l e R s m args below meth c X A nL cells slots Qf σ pc lv (.ref x :: st) :=
  fun H locs ls hP hS hl => lv_ifnull E.x E.b hd (k H locs ls hP hS hl)
theorem r_ifnullN (E : Ev p R s m args meth c X A nL cells slots cc own) {off : Int} {tgt : Nat} (hd : decode cc pc = .ok (.ifnull off, 3)) (ht : (pc : Int) + off = (tgt : Int)) (k : G p l e R s m args below meth c X A nL cells slots Qf σ tgt lv st) : G p l e R s m args below meth c X A nL cells slots Qf σ pc lv (.null :: st) :=
  fun H locs ls hP hS hl => lv_ifnullN E.x E.b hd ht (k H locs ls hP hS hl)
theorem r_ifnonnullN (E : Ev p R s m args meth c X A nL cells slots cc own) {off : Int} (hd : decode cc pc = .ok (.ifnonnull off, 3)) (k : G p l e R s m args below meth c X A nL cells slots Qf σ (pc + 3) lv st) : G p l e R s m args below meth c X A nL cells slots Qf σ pc lv (.null :: st) :=
  fun H locs ls hP hS hl => lv_ifnonnullN E.x E.b hd (k H locs ls hP hS hl)
theorem r_if_eq (E : Ev p R s m args meth c X A nL cells slots cc own) {x : Int32} {off : Int} {tgt : Nat} (hd : decode cc pc = .ok (.ifCond .eq off, 3)) (ht : (pc : Int) + off = (tgt : Int)) (kt : x = 0 → G p l e R s m args below meth c X A nL cells slots Qf σ tgt lv st) (kf : ¬ (x = 0) → G p l e R s m args below meth c X A nL cells slots Qf σ (pc + 3) lv st) : G p l e R s m args below meth c X A nL cells slots Qf σ pc lv (.int x :: st) :=
  fun H locs ls hP hS hl => lv_if_eq E.x E.b hd ht (fun z => kt z H locs ls hP hS hl) (fun z => kf z H locs ls hP hS hl)
theorem r_icmp_eq (E : Ev p R s m args meth c X A nL cells slots cc own) {x y : Int32} {off : Int} {tgt : Nat} (hd : decode cc pc = .ok (.if_icmp .eq off, 3)) (ht : (pc : Int) + off = (tgt : Int)) (kt : x = y → G p l e R s m args below meth c X A nL cells slots Qf σ tgt lv st) (kf : ¬ (x = y) → G p l e R s m args below meth c X A nL cells slots Qf σ (pc + 3) lv st) : G p l e R s m args below meth c X A nL cells slots Qf σ pc lv (.int y :: .int x :: st) :=
  fun H locs ls hP hS hl => lv_icmp_eq E.x E.b hd ht (fun z => kt z H locs ls hP hS hl) (fun z => kf z H locs ls hP hS hl)
theorem r_if_ne (E : Ev p R s m args meth c X A nL cells slots cc own) {x : Int32} {off : Int} {tgt : Nat} (hd : decode cc pc = .ok (.ifCond .ne off, 3)) (ht : (pc : Int) + off = (tgt : Int)) (kt : ¬ x = 0 → G p l e R s m args below meth c X A nL cells slots Qf σ tgt lv st) (kf : x = 0 → G p l e R s m args below meth c X A nL cells slots Qf σ (pc + 3) lv st) : G p l e R s m args below meth c X A nL cells slots Qf σ pc lv (.int x :: st) :=
  fun H locs ls hP hS hl => lv_if_ne E.x E.b hd ht (fun z => kt z H locs ls hP hS hl) (fun z => kf z H locs ls hP hS hl)
theorem r_icmp_ne (E : Ev p R s m args meth c X A nL cells slots cc own) {x y : Int32} {off : Int} {tgt : Nat} (hd : decode cc pc = .ok (.if_icmp .ne off, 3)) (ht : (pc : Int) + off = (tgt : Int)) (kt : ¬ x = y → G p l e R s m args below meth c X A nL cells slots Qf σ tgt lv st) (kf : x = y → G p l e R s m args below meth c X A nL cells slots Qf σ (pc + 3) lv st) : G p l e R s m args below meth c X A nL cells slots Qf σ pc lv (.int y :: .int x :: st) :=
  fun H locs ls hP hS hl => lv_icmp_ne E.x E.b hd ht (fun z => kt z H locs ls hP hS hl) (fun z => kf z H locs ls hP hS hl)
theorem r_if_lt (E : Ev p R s m args meth c X A nL cells slots cc own) {x : Int32} {off : Int} {tgt : Nat} (hd : decode cc pc = .ok (.ifCond .lt off, 3)) (ht : (pc : Int) + off = (tgt : Int)) (kt : x < 0 → G p l e R s m args below meth c X A nL cells slots Qf σ tgt lv st) (kf : ¬ (x < 0) → G p l e R s m args below meth c X A nL cells slots Qf σ (pc + 3) lv st) : G p l e R s m args below meth c X A nL cells slots Qf σ pc lv (.int x :: st) :=
  fun H locs ls hP hS hl => lv_if_lt E.x E.b hd ht (fun z => kt z H locs ls hP hS hl) (fun z => kf z H locs ls hP hS hl)
theorem r_icmp_lt (E : Ev p R s m args meth c X A nL cells slots cc own) {x y : Int32} {off : Int} {tgt : Nat} (hd : decode cc pc = .ok (.if_icmp .lt off, 3)) (ht : (pc : Int) + off = (tgt : Int)) (kt : x < y → G p l e R s m args below meth c X A nL cells slots Qf σ tgt lv st) (kf : ¬ (x < y) → G p l e R s m args below meth c X A nL cells slots Qf σ (pc + 3) lv st) : G p l e R s m args below meth c X A nL cells slots Qf σ pc lv (.int y :: .int x :: st) :=
  fun H locs ls hP hS hl => lv_icmp_lt E.x E.b hd ht (fun z => kt z H locs ls hP hS hl) (fun z => kf z H locs ls hP hS hl)
theorem r_if_ge (E : Ev p R s m args meth c X A nL cells slots cc own) {x : Int32} {off : Int} {tgt : Nat} (hd : decode cc pc = .ok (.ifCond .ge off, 3)) (ht : (pc : Int) + off = (tgt : Int)) (kt : 0 ≤ x → G p l e R s m args below meth c X A nL cells slots Qf σ tgt lv st) (kf : ¬ (0 ≤ x) → G p l e R s m args below meth c X A nL cells slots Qf σ (pc + 3) lv st) : G p l e R s m args below meth c X A nL cells slots Qf σ pc lv (.int x :: st) :=
  fun H locs ls hP hS hl => lv_if_ge E.x E.b hd ht (fun z => kt z H locs ls hP hS hl) (fun z => kf z H locs ls hP hS hl)
theorem r_icmp_ge (E : Ev p R s m args meth c X A nL cells slots cc own) {x y : Int32} {off : Int} {tgt : Nat} (hd : decode cc pc = .ok (.if_icmp .ge off, 3)) (ht : (pc : Int) + off = (tgt : Int)) (kt : y ≤ x → G p l e R s m args below meth c X A nL cells slots Qf σ tgt lv st) (kf : ¬ (y ≤ x) → G p l e R s m args below meth c X A nL cells slots Qf σ (pc + 3) lv st) : G p l e R s m args below meth c X A nL cells slots Qf σ pc lv (.int y :: .int x :: st) :=
  fun H locs ls hP hS hl => lv_icmp_ge E.x E.b hd ht (fun z => kt z H locs ls hP hS hl) (fun z => kf z H locs ls hP hS hl)
theorem r_if_gt (E : Ev p R s m args meth c X A nL cells slots cc own) {x : Int32} {off : Int} {tgt : Nat} (hd : decode cc pc = .ok (.ifCond .gt off, 3)) (ht : (pc : Int) + off = (tgt : Int)) (kt : 0 < x → G p l e R s m args below meth c X A nL cells slots Qf σ tgt lv st) (kf : ¬ (0 < x) → G p l e R s m args below meth c X A nL cells slots Qf σ (pc + 3) lv st) : G p l e R s m args below meth c X A nL cells slots Qf σ pc lv (.int x :: st) :=
  fun H locs ls hP hS hl => lv_if_gt E.x E.b hd ht (fun z => kt z H locs ls hP hS hl) (fun z => kf z H locs ls hP hS hl)
theorem r_icmp_gt (E : Ev p R s m args meth c X A nL cells slots cc own) {x y : Int32} {off : Int} {tgt : Nat} (hd : decode cc pc = .ok (.if_icmp .gt off, 3)) (ht : (pc : Int) + off = (tgt : Int)) (kt : y < x → G p l e R s m args below meth c X A nL cells slots Qf σ tgt lv st) (kf : ¬ (y < x) → G p l e R s m args below meth c X A nL cells slots Qf σ (pc + 3) lv st) : G p l e R s m args below meth c X A nL cells slots Qf σ pc lv (.int y :: .int x :: st) :=
  fun H locs ls hP hS hl => lv_icmp_gt E.x E.b hd ht (fun z => kt z H locs ls hP hS hl) (fun z => kf z H locs ls hP hS hl)
theorem r_if_le (E : Ev p R s m args meth c X A nL cells slots cc own) {x : Int32} {off : Int} {tgt : Nat} (hd : decode cc pc = .ok (.ifCond .le off, 3)) (ht : (pc : Int) + off = (tgt : Int)) (kt : x ≤ 0 → G p l e R s m args below meth c X A nL cells slots Qf σ tgt lv st) (kf : ¬ (x ≤ 0) → G p l e R s m args below meth c X A nL cells slots Qf σ (pc + 3) lv st) : G p l e R s m args below meth c X A nL cells slots Qf σ pc lv (.int x :: st) :=
  fun H locs ls hP hS hl => lv_if_le E.x E.b hd ht (fun z => kt z H locs ls hP hS hl) (fun z => kf z H locs ls hP hS hl)
theorem r_icmp_le (E : Ev p R s m args meth c X A nL cells slots cc own) {x y : Int32} {off : Int} {tgt : Nat} (hd : decode cc pc = .ok (.if_icmp .le off, 3)) (ht : (pc : Int) + off = (tgt : Int)) (kt : x ≤ y → G p l e R s m args below meth c X A nL cells slots Qf σ tgt lv st) (kf : ¬ (x ≤ y) → G p l e R s m args below meth c X A nL cells slots Qf σ (pc + 3) lv st) : G p l e R s m args below meth c X A nL cells slots Qf σ pc lv (.int y :: .int x :: st) :=
  fun H locs ls hP hS hl => lv_icmp_le E.x E.b hd ht (fun z => kt z H locs ls hP hS hl) (fun z => kf z H locs ls hP hS hl)
/-! fields -/
/-- a class of the tables: its place, its types, its names apart -/
def KC (ci : Nat) (C : String) (T : u_T) (N : Nat) (ty : Nat → FieldType) : Prop := vwCl[ci]? = some (C, T, N) ∧ (∀ k, k < N → parseFieldDescriptor (T k).2.2.1 = some (ty k)) ∧ (∀ a, a < N → ∀ b, b < N → a ≠ b → (T a).2.1 ≠ (T b).2.1) ∧ ∀ w ∈ u_ws C T N, w ∈ WS
theorem map_at {α : Type} (f : Nat → α) {n j : Nat} (h : j < n) : ((List.range n).map f)[j]? = some (f j) := by simp [h]
theorem map_no {α : Type} (f : Nat → α) {n j : Nat} (h : n ≤ j) : ((List.range n).map f)[j]? = none := by
  rw [List.getElem?_eq_none_iff]
  simpa using h
theorem r_get (E : Ev p R s m args meth c X A nL cells slots cc own) {ci k j index : Nat} {C : String} {T : u_T} {N : Nat} {ty : Nat → FieldType} {v : Value} (hk : okc ci k) (hc : KC ci C T N ty) (hj : Nat.ble (j + 1) N = true) (hlink : Cond.fieldLink own index (T j).1 (T j).2.1 (T j).2.2.1 ∈ WS) (hv : sv X σ k j = v) (hd : decode cc pc = .ok (.getfield index, 3))
    (kk : G p l e R s m args below meth c X A nL cells slots Qf σ (pc + 3) lv (v :: st)) : G p l e R s m args below meth c X A nL cells slots Qf σ pc lv (.ref (xa X k) :: st) := by
  intro H locs ls hP hS hl
  have hj := Nat.le_of_ble_eq_true hj
  have hg := wl_get X σ hk.1
  rw [(en_obj X σ hk hc.1).1] at hg
  exact va_get (D := xD X) (tys := tyL X) (C := C) (T := T) (N := N) E.x E.b E.ts hc.2.2.2 E.ow E.kb.1 hP k hg hc.1 j hj (E.ts _ hlink) (fun _ h9 => h9) (by rw [map_at _ hj, hv]) hd (kk H locs ls hP hS hl)
theorem set_row (X : XT) (σ : ST) {k j N : Nat} {v : Int32} (h0 : rt k j = 0) : ((List.range N).map (sv X σ k)).set j (.int v) = (List.range N).map (sv X (up σ k j v) k) := by
  apply List.ext_getElem?
  intro i
  rw [List.getElem?_set]
  by_cases hi : j = i
  · subst hi
    by_cases hj : j < N
    · rw [if_pos rfl, if_pos (by simpa using hj), map_at _ hj]
      simp [sv, h0, up]
    · rw [if_pos rfl, if_neg (by simpa using hj), map_no _ (by omega)]
  · rw [if_neg hi]
    by_cases hj : i < N
    · rw [map_at _ hj, map_at _ hj]
      congr 1
      have hz : up σ k j v k i = σ k i := up_ne σ v (fun z => hi z.2.symm)
      simp only [sv, hz]
    · rw [map_no _ (by omega), map_no _ (by omega)]
theorem r_put (E : Ev p R s m args meth c X A nL cells slots cc own) {ci k j index : Nat} {C : String} {T : u_T} {N : Nat} {ty : Nat → FieldType} {x : Int32} (hk : okc ci k) (hc : KC ci C T N ty) (hj : Nat.ble (j + 1) N = true) (hlink : Cond.fieldLink own index (T j).1 (T j).2.1 (T j).2.2.1 ∈ WS) (h0 : rt k j = 0) (hfin : (T j).2.2.2 = false) (hty : ty j = .int) (hd : decode cc pc = .ok (.putfield index, 3))
    (kk : ∀ τ : ST, τ = up σ k j x → G p l e R s m args below meth c X A nL cells slots Qf τ (pc + 3) lv st) : G p l e R s m args below meth c X A nL cells slots Qf σ pc lv (.int x :: .ref (xa X k) :: st) := by
  intro H locs ls hP hS hl
  have hj := Nat.le_of_ble_eq_true hj
  have hg := wl_get X σ hk.1
  have he := en_obj X σ hk hc.1
  have he2 := en_obj X (up σ k j x) hk hc.1
  rw [he.1] at hg
  refine va_put (D := xD X) (tys := tyL X) (C := C) (T := T) (N := N) (ty := .int) (v := .int x) E.x E.b E.ts hc.2.2.2 ty hc.2.1 hc.2.2.1 E.ow E.kb.1 hP (E.D σ) hS k hg hc.1 j hj (E.ts _ hlink) (fun _ h9 => h9) hfin (by rw [hc.2.1 j hj, hty]) rfl rfl (by rw [List.length_map, List.length_range]; exact hj) hd (fun H1 locs1 hP1 _ hS1 => ?_)
  refine kk _ rfl H1 locs1 ls ?_ hS1 hl
  rw [set_row X σ h0] at hP1
  rw [wl_set X (τ := up σ k j x) he2.1.symm (fun i hi => up_row hi)] at hP1
  exact hP1
/-- a field that names one of the two Rules -/
theorem r_putR (E : Ev p R s m args meth c X A nL cells slots cc own) {j index q : Nat} (hj : j = 11 ∨ j = 12) (hc : KC 8 RX8 TX8 16 tyX8) (hlink : Cond.fieldLink own index (TX8 j).1 (TX8 j).2.1 (TX8 j).2.2.1 ∈ WS) (hq : okc 3 q) (hd : decode cc pc = .ok (.putfield index, 3))
    (kk : ∀ τ : ST, τ = up σ 0 j (nI (q - 7)) → G p l e R s m args below meth c X A nL cells slots Qf τ (pc + 3) lv st) : G p l e R s m args below meth c X A nL cells slots Qf σ pc lv (.ref (xa X q) :: .ref (xa X 0) :: st) := by
  have hq2 : q = 7 ∨ q = 8 := by
    obtain ⟨h1, h2⟩ := hq
    have : ∀ q, q < 90 → kd q = 3 → q = 7 ∨ q = 8 := by decide +kernel
    exact this q h1 h2
  have hn : 7 + (nI (q - 7)).toNatClampNeg = q := by
    rcases hq2 with rfl | rfl <;> decide +kernel
  intro H locs ls hP hS hl
  have hk : okc 8 0 := ⟨by decide, by decide⟩
  have hg := wl_get X σ hk.1
  have he := en_obj X σ hk hc.1
  have he2 := en_obj X (up σ 0 j (nI (q - 7))) hk hc.1
  rw [he.1] at hg
  have hj16 : j < 16 := by omega
  have hrt : rt 0 j = 1008 := by rcases hj with rfl | rfl <;> decide
  refine va_put (D := xD X) (tys := tyL X) (C := RX8) (T := TX8) (N := 16) (ty := .object "ChairFront$Rules") (v := .ref (xa X q)) E.x E.b E.ts hc.2.2.2 tyX8 hc.2.1 hc.2.2.1 E.ow E.kb.1 hP (E.D σ) hS 0 hg hc.1 j hj16 (E.ts _ hlink) (fun _ h9 => h9) (by rcases hj with rfl | rfl <;> rfl) (by rcases hj with rfl | rfl <;> decide +kernel) rfl rfl (by simpa using hj16) hd (fun H1 locs1 hP1 _ hS1 => ?_)
  refine kk _ rfl H1 locs1 ls ?_ hS1 hl
  have hset : ((List.range 16).map (sv X σ 0)).set j (.ref (xa X q)) = (List.range 16).map (sv X (up σ 0 j (nI (q - 7))) 0) := by
    apply List.ext_getElem?
    intro i
    rw [List.getElem?_set]
    by_cases hi : j = i
    · subst hi
      rw [if_pos rfl, if_pos (by simpa using hj16), map_at _ hj16]
      simp only [sv, hrt, up_self]
      rw [if_neg (by decide), if_pos (by decide), hn]
    · rw [if_neg hi]
      by_cases hj : i < 16
      · rw [map_at _ hj, map_at _ hj]
        congr 1
        have hz : up σ 0 j (nI (q - 7)) 0 i = σ 0 i := up_ne σ _ (fun z => hi z.2.symm)
        simp only [sv, hz]
      · rw [map_no _ (by omega), map_no _ (by omega)]
  rw [hset] at hP1
  rw [wl_set X (τ := up σ 0 j (nI (q - 7))) he2.1.symm (fun i hi => up_row hi)] at hP1
  exact hP1
theorem svI {X : XT} {σ : ST} {k j : Nat} (h : rt k j = 0) : sv X σ k j = .int (σ k j) := if_pos h
theorem rt_st : ∀ k, k < 90 → kd k = 4 → ∀ j, j < 7 → rt k j = 0 := by decide +kernel
theorem rt_tk : ∀ k, k < 90 → kd k = 6 → ∀ j, j < 7 → rt k j = 0 := by decide +kernel
theorem rt_ru : ∀ k, k < 90 → kd k = 3 → ∀ j, j < 4 → rt k j = 0 := by decide +kernel
theorem rt_ra : ∀ k, k < 90 → kd k = 3 → ∀ j, j < 4 → (rt k (4 + j) = 4 * k - 18 + j ∧ 4 * k - 18 + j < 90 ∧ 0 < 4 * k - 18 + j ∧ kd (4 * k - 18 + j - 1) = 10 ∧ ln (4 * k - 18 + j - 1) = 5) := by decide +kernel
theorem r0 {k j : Nat} (h : okc 4 k ∨ okc 6 k) (hj : Nat.ble (j + 1) 7 = true) : rt k j = 0 := by
  have hj := Nat.le_of_ble_eq_true hj
  rcases h with h | h
  · exact rt_st k h.1 h.2 j hj
  · exact rt_tk k h.1 h.2 j hj
theorem r0R {k j : Nat} (h : okc 3 k) (hj : Nat.ble (j + 1) 4 = true) : rt k j = 0 := rt_ru k h.1 h.2 j (Nat.le_of_ble_eq_true hj)
/-- the rows of a Rules: cell 4 k - 19 + j -/
theorem svR {X : XT} {σ : ST} {k : Nat} (h : okc 3 k) (j : Nat) (hj : Nat.ble (j + 1) 4 = true) : sv X σ k (4 + j) = .ref (xa X (4 * k - 18 + j - 1)) := by
  obtain ⟨h1, h2, h3, -⟩ := rt_ra k h.1 h.2 j (Nat.le_of_ble_eq_true hj)
  unfold sv
  rw [h1, if_neg (by omega), if_neg (by omega)]
theorem okRA {k : Nat} (h : okc 3 k) (j : Nat) (hj : Nat.ble (j + 1) 4 = true) : okc 10 (4 * k - 18 + j - 1) := by
  obtain ⟨h1, h2, h3, h4, -⟩ := rt_ra k h.1 h.2 j (Nat.le_of_ble_eq_true hj)
  exact ⟨by omega, h4⟩
theorem lnRA {k : Nat} (h : okc 3 k) (j : Nat) (hj : Nat.ble (j + 1) 4 = true) : ln (4 * k - 18 + j - 1) = 5 := (rt_ra k h.1 h.2 j (Nat.le_of_ble_eq_true hj)).2.2.2.2
/-! arrays -/
theorem r_iald (E : Ev p R s m args meth c X A nL cells slots cc own) {k n : Nat} {i : Int32} (hk : okc 10 k) (hn : ln k = n) (hi : vp_in i n) (hd : decode cc pc = .ok (.iaload, 1)) (kk : G p l e R s m args below meth c X A nL cells slots Qf σ (pc + 1) lv (.int (σ k i.toNatClampNeg) :: st)) : G p l e R s m args below meth c X A nL cells slots Qf σ pc lv (.int i :: .ref (xa X k) :: st) := by
  intro H locs ls hP hS hl
  subst hn
  have hg := wl_get X σ hk.1
  rw [en_int X σ hk] at hg
  exact va_iald (D := xD X) (tys := tyL X) E.x E.b E.kb.1 hP k 0 hg rfl hi hd (kk H locs ls hP hS hl)
theorem r_iast (E : Ev p R s m args meth c X A nL cells slots cc own) {k n : Nat} {i x : Int32} (hk : okc 10 k) (hn : ln k = n) (hi : vp_in i n) (hd : decode cc pc = .ok (.iastore, 1)) (kk : ∀ τ : ST, τ = up σ k i.toNatClampNeg x → G p l e R s m args below meth c X A nL cells slots Qf τ (pc + 1) lv st) : G p l e R s m args below meth c X A nL cells slots Qf σ pc lv (.int x :: .int i :: .ref (xa X k) :: st) := by
  intro H locs ls hP hS hl
  subst hn
  have hg := wl_get X σ hk.1
  rw [en_int X σ hk] at hg
  refine va_iast (D := xD X) (tys := tyL X) E.x E.b E.kb.1 hP (E.D σ) hS k 0 hg rfl hi hd (fun H1 locs1 hP1 _ hS1 => ?_)
  refine kk _ rfl H1 locs1 ls ?_ hS1 hl
  rw [wl_set X (τ := up σ k i.toNatClampNeg x) (by rw [en_int X _ hk, up_upd]) (fun i hi => up_row hi)] at hP1
  exact hP1
theorem r_bald (E : Ev p R s m args meth c X A nL cells slots cc own) {k n : Nat} {i : Int32} (hk : okc 11 k) (hn : ln k = n) (hi : vp_in i n) (hd : decode cc pc = .ok (.baload, 1)) (kk : G p l e R s m args below meth c X A nL cells slots Qf σ (pc + 1) lv (.int (σ k i.toNatClampNeg) :: st)) : G p l e R s m args below meth c X A nL cells slots Qf σ pc lv (.int i :: .ref (xa X k) :: st) := by
  intro H locs ls hP hS hl
  subst hn
  have hg := wl_get X σ hk.1
  rw [en_byte X σ hk] at hg
  exact va_bald (D := xD X) (tys := tyL X) E.x E.b E.kb.1 hP k 1 hg rfl hi hd (kk H locs ls hP hS hl)
theorem r_bast (E : Ev p R s m args meth c X A nL cells slots cc own) {k n : Nat} {i x : Int32} (hk : okc 11 k) (hn : ln k = n) (hi : vp_in i n) (hd : decode cc pc = .ok (.bastore, 1)) (kk : ∀ τ : ST, τ = up σ k i.toNatClampNeg x.toInt8.toInt32 → G p l e R s m args below meth c X A nL cells slots Qf τ (pc + 1) lv st) : G p l e R s m args below meth c X A nL cells slots Qf σ pc lv (.int x :: .int i :: .ref (xa X k) :: st) := by
  intro H locs ls hP hS hl
  subst hn
  have hg := wl_get X σ hk.1
  rw [en_byte X σ hk] at hg
  refine va_bast (D := xD X) (tys := tyL X) E.x E.b E.kb.1 hP (E.D σ) hS k 1 hg rfl hi hd (fun H1 locs1 hP1 _ hS1 => ?_)
  refine kk _ rfl H1 locs1 ls ?_ hS1 hl
  rw [vp_nar_byte, wl_set X (τ := up σ k i.toNatClampNeg x.toInt8.toInt32) (by rw [en_byte X _ hk, up_upd]) (fun i hi => up_row hi)] at hP1
  exact hP1
theorem r_aldS (E : Ev p R s m args meth c X A nL cells slots cc own) {i : Int32} (hi : vp_in i 10) (hd : decode cc pc = .ok (.aaload, 1)) (kk : G p l e R s m args below meth c X A nL cells slots Qf σ (pc + 1) lv (.ref (xa X (23 + i.toNatClampNeg)) :: st)) : G p l e R s m args below meth c X A nL cells slots Qf σ pc lv (.int i :: .ref (xa X 1) :: st) := by
  intro H locs ls hP hS hl
  have hk : okc 12 1 := ⟨by decide, by decide⟩
  have hg := wl_get X σ hk.1
  rw [en_sts X σ hk] at hg
  exact va_aldq (D := xD X) (tys := tyL X) E.x E.b E.kb.1 hP 1 2 hg rfl hi hd (kk H locs ls hP hS hl)
theorem r_aldT (E : Ev p R s m args meth c X A nL cells slots cc own) {i : Int32} (hi : vp_in i 30) (hd : decode cc pc = .ok (.aaload, 1)) (kk : G p l e R s m args below meth c X A nL cells slots Qf σ (pc + 1) lv (.ref (xa X (33 + (σ 3 i.toNatClampNeg).toNatClampNeg)) :: st)) : G p l e R s m args below meth c X A nL cells slots Qf σ pc lv (.int i :: .ref (xa X 3) :: st) := by
  intro H locs ls hP hS hl
  have hk : okc 13 3 := ⟨by decide, by decide⟩
  have hg := wl_get X σ hk.1
  rw [en_tks X σ hk] at hg
  exact va_aldq (D := xD X) (tys := tyL X) E.x E.b E.kb.1 hP 3 3 hg rfl hi hd (kk H locs ls hP hS hl)
theorem r_astT (E : Ev p R s m args meth c X A nL cells slots cc own) {i : Int32} {q : Nat} (hi : vp_in i 30) (hq : okc 6 q) (hd : decode cc pc = .ok (.aastore, 1)) (kk : ∀ τ : ST, τ = up σ 3 i.toNatClampNeg (nI (q - 33)) → G p l e R s m args below meth c X A nL cells slots Qf τ (pc + 1) lv st) : G p l e R s m args below meth c X A nL cells slots Qf σ pc lv (.ref (xa X q) :: .int i :: .ref (xa X 3) :: st) := by
  intro H locs ls hP hS hl
  have hk : okc 13 3 := ⟨by decide, by decide⟩
  have hq2 : 33 ≤ q ∧ q < 63 := by
    have : ∀ q, q < 90 → kd q = 6 → 33 ≤ q ∧ q < 63 := by decide +kernel
    exact this q hq.1 hq.2
  have hn : 33 + (nI (q - 33)).toNatClampNeg = q := by
    rw [nI_clamp (by omega)]
    omega
  have hg := wl_get X σ hk.1
  rw [en_tks X σ hk] at hg
  have hgq := wl_get X σ hq.1
  rw [(en_obj X σ hq (C := RX6) (T := TX6) (N := 7) rfl).1] at hgq
  refine va_astq (D := xD X) (tys := tyL X) (r := (RX6, TX6, 7)) E.x E.b E.kb.1 hP (E.D σ) hS 3 3 q 6 hg rfl hgq rfl hi hd (fun H1 locs1 hP1 _ hS1 => ?_)
  refine kk _ rfl H1 locs1 ls ?_ hS1 hl
  rw [wl_set X (τ := up σ 3 i.toNatClampNeg (nI (q - 33))) (by
    rw [en_tks X _ hk]
    congr 7
    funext b
    unfold va_up up
    by_cases hb : b = i.toNatClampNeg
    · rw [if_pos hb, if_pos ⟨rfl, hb⟩, hn]
    · rw [if_neg hb, if_neg (fun z => hb z.2)]) (fun i hi => up_row hi)] at hP1
  exact hP1
theorem r_alen (E : Ev p R s m args meth c X A nL cells slots cc own) {k : Nat} {v : Int32} (hk : k < 90) (hk2 : Nat.ble 10 (kd k) = true) (hk3 : Nat.ble (kd k) 13 = true) (hv : Int32.ofNat (ln k) = v) (hd : decode cc pc = .ok (.arraylength, 1)) (kk : G p l e R s m args below meth c X A nL cells slots Qf σ (pc + 1) lv (.int v :: st)) : G p l e R s m args below meth c X A nL cells slots Qf σ pc lv (.ref (xa X k) :: st) := by
  intro H locs ls hP hS hl
  have h1 := Nat.le_of_ble_eq_true hk2
  have h2 := Nat.le_of_ble_eq_true hk3
  have hg := wl_get X σ hk
  rcases (show kd k = 10 ∨ kd k = 11 ∨ kd k = 12 ∨ kd k = 13 by omega) with h | h | h | h
  · rw [en_int X σ ⟨hk, h⟩] at hg
    exact va_alen (D := xD X) (tys := tyL X) E.x E.b E.kb.1 hP k 0 hg rfl hv hd (kk H locs ls hP hS hl)
  · rw [en_byte X σ ⟨hk, h⟩] at hg
    exact va_alen (D := xD X) (tys := tyL X) E.x E.b E.kb.1 hP k 1 hg rfl hv hd (kk H locs ls hP hS hl)
  · rw [en_sts X σ ⟨hk, h⟩] at hg
    exact va_alen (D := xD X) (tys := tyL X) E.x E.b E.kb.1 hP k 2 hg rfl hv hd (kk H locs ls hP hS hl)
  · rw [en_tks X σ ⟨hk, h⟩] at hg
    exact va_alen (D := xD X) (tys := tyL X) E.x E.b E.kb.1 hP k 3 hg rfl hv hd (kk H locs ls hP hS hl)
end GR
