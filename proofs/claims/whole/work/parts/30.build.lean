/-! BUILDING: the cells that are made, one behind the other, from N0 on -/
def bw (N0 : Nat) (es : List va_E) : va_W := es.mapIdx (fun i e => (N0 + i, e))
theorem bw_at (N0 : Nat) (es : List va_E) (i : Nat) : (bw N0 es)[i]? = es[i]?.map (fun e => (N0 + i, e)) := by
  simp [bw, List.getElem?_mapIdx]
theorem bw_get {N0 : Nat} {es : List va_E} {i : Nat} {e : va_E} (h : es[i]? = some e) : (bw N0 es)[i]? = some (N0 + i, e) := by rw [bw_at, h]; rfl
theorem bw_set (N0 : Nat) (es : List va_E) (i : Nat) (e : va_E) : (bw N0 es).set i (N0 + i, e) = bw N0 (es.set i e) := by
  apply List.ext_getElem?
  intro j
  rw [List.getElem?_set, bw_at, bw_at, List.getElem?_set]
  by_cases h : i = j
  · subst h
    rw [if_pos rfl, if_pos rfl]
    by_cases h2 : i < es.length
    · rw [if_pos (by simpa [bw] using h2), if_pos h2]; rfl
    · rw [if_neg (by simpa [bw] using h2), if_neg h2]; rfl
  · rw [if_neg h, if_neg h]
theorem bw_app (N0 : Nat) (es : List va_E) (e : va_E) : bw N0 (es ++ [e]) = bw N0 es ++ [(N0 + es.length, e)] := by
  simp [bw, List.mapIdx_append]
theorem bw_D (N0 : Nat) (es : List va_E) : va_D (fun q => N0 ≤ q) (bw N0 es) := by
  have hg : ∀ (i : Nat) (p : Nat × va_E), (bw N0 es)[i]? = some p → p.1 = N0 + i := by
    intro i p hp
    rw [bw_at] at hp
    cases h : es[i]? with
    | none => rw [h] at hp; cases hp
    | some e => rw [h] at hp; cases hp; rfl
  refine ⟨fun i j p q hp hq e => ?_, fun k q hq => ?_⟩
  · have h1 := hg i p hp
    have h2 := hg j q hq
    omega
  · show N0 ≤ q.1
    rw [hg k q hq]
    omega
def Bd (D : va_G) (N0 : Nat) (es : List va_E) (H : Heap) : Prop := H.size = N0 + es.length ∧ va_P D vwCl (bw N0 es) H
abbrev tyC (cA : Nat → ClassId) : List (ClassId × FieldType) := [(cA 0, .int), (cA 1, .byte), (cA 2, .object RX4), (cA 3, .object RX6)]
def nestL : List (String × Nat × MethodName) := [(RX7, 15, yX6_init), (RX8, 31, yX2_init), (RX2, 9, yX5_init), (RX8, 38, yX3_init), (RX8, 48, yX1_init), (RX8, 55, yX0_init), (RX8, 72, yX4_init)]
def Kn (D : va_G) (cA : Nat → ClassId) (U : State) : Prop := va_K D vwCl (tyC cA) U ∧ va_AO RX4 U ∧ va_AO RX6 U ∧ ∀ (i : Nat) (q : String × Nat × MethodName), nestL[i]? = some q → va_Nw (.methodLinkNest q.1 q.2.1 q.2.2 RX8) U
theorem Kn.warm {D : va_G} {cA : Nat → ClassId} {s U : State} (hW : s.WarmedH U.vm) (h : Kn D cA s) : Kn D cA U := ⟨va_K.moved hW.alike h.1, h.2.1.moved hW.alike, h.2.2.1.moved hW.alike, fun i q hq => va_Nw.warmM hW (h.2.2.2 i q hq)⟩
theorem Kn.same {D : va_G} {cA : Nat → ClassId} {s U : State} (hv : U.vm = s.vm) (h : Kn D cA s) : Kn D cA U := ⟨va_K.moved (hv ▸ Vm.Alike.refl s.vm) h.1, h.2.1.moved (hv ▸ Vm.Alike.refl s.vm), h.2.2.1.moved (hv ▸ Vm.Alike.refl s.vm), fun i q hq => va_Nw.same rfl hv.symm (h.2.2.2 i q hq)⟩
section GBS
variable {p : Program} {l : Launch} {e : Env} {R : Room} {s : State} {m : MethodId} {args : Array Value} {below : List Frame} {meth : Method} {c : Code} {D : va_G} {cA : Nat → ClassId} {N0 nL cells slots : Nat} {Qf : State → Prop} {cc : ByteArray} {own : String}
def GB (p : Program) (l : Launch) (e : Env) (R : Room) (s : State) (m : MethodId) (args : Array Value) (below : List Frame) (meth : Method) (c : Code) (D : va_G) (N0 nL : Nat) (Qf : State → Prop) (cells slots : Nat) (es : List va_E) (pc : Nat) (lv : List (Option Value)) (st : List Value) : Prop :=
  ∀ (H : Heap) (locs : List Loc) (ls : Array Slot), Bd D N0 es H → va_S (fun q => N0 ≤ q) s.heap H locs → Lv ls nL lv → W p l e R s m args below meth c H locs cells slots Qf (F0 m pc ls st)
def Eb (p : Program) (s : State) (m : MethodId) (args : Array Value) (meth : Method) (c : Code) (D : va_G) (cA : Nat → ClassId) (N0 nL : Nat) (cc : ByteArray) (own : String) : Prop :=
  p.tables.exec = Jvm.exec ∧ c.code = cc ∧ c.maxLocals = nL ∧ s.vm.findClass own = some m.cls ∧ (∀ w ∈ WS, w.before args s = true) ∧ Kn D cA s ∧ meth.locks = false ∧ N0 ≤ s.heap.size
theorem Eb.x (E : Eb p s m args meth c D cA N0 nL cc own) : p.tables.exec = Jvm.exec := E.1
theorem Eb.b (E : Eb p s m args meth c D cA N0 nL cc own) : c.code = cc := E.2.1
theorem Eb.ml (E : Eb p s m args meth c D cA N0 nL cc own) : c.maxLocals = nL := E.2.2.1
theorem Eb.ow (E : Eb p s m args meth c D cA N0 nL cc own) : s.vm.findClass own = some m.cls := E.2.2.2.1
theorem Eb.ts (E : Eb p s m args meth c D cA N0 nL cc own) : ∀ w ∈ WS, w.before args s = true := E.2.2.2.2.1
theorem Eb.kn (E : Eb p s m args meth c D cA N0 nL cc own) : Kn D cA s := E.2.2.2.2.2.1
theorem Eb.lk (E : Eb p s m args meth c D cA N0 nL cc own) : meth.locks = false := E.2.2.2.2.2.2.1
theorem Eb.n0 (E : Eb p s m args meth c D cA N0 nL cc own) : N0 ≤ s.heap.size := E.2.2.2.2.2.2.2
variable {es : List va_E} {pc : Nat} {lv lv' : List (Option Value)} {st : List Value}
theorem b_iconst (E : Eb p s m args meth c D cA N0 nL cc own) {n : Int} {v : Int32} (hd : decode cc pc = .ok (.iconst n, 1)) (hv : Int32.ofInt n = v) (k : GB p l e R s m args below meth c D N0 nL Qf cells slots es (pc + 1) lv (.int v :: st)) : GB p l e R s m args below meth c D N0 nL Qf cells slots es pc lv st :=
  fun H locs ls hP hS hl => lv_iconst E.x E.b hd hv (k H locs ls hP hS hl)
theorem b_bipush (E : Eb p s m args meth c D cA N0 nL cc own) {n : Int} {v : Int32} (hd : decode cc pc = .ok (.bipush n, 2)) (hv : (Int8.ofInt n).toInt32 = v) (k : GB p l e R s m args below meth c D N0 nL Qf cells slots es (pc + 2) lv (.int v :: st)) : GB p l e R s m args below meth c D N0 nL Qf cells slots es pc lv st :=
  fun H locs ls hP hS hl => lv_bipush E.x E.b hd hv (k H locs ls hP hS hl)
theorem b_sipush (E : Eb p s m args meth c D cA N0 nL cc own) {n : Int} {v : Int32} (hd : decode cc pc = .ok (.sipush n, 3)) (hv : (Int16.ofInt n).toInt32 = v) (k : GB p l e R s m args below meth c D N0 nL Qf cells slots es (pc + 3) lv (.int v :: st)) : GB p l e R s m args below meth c D N0 nL Qf cells slots es pc lv st :=
  fun H locs ls hP hS hl => lv_sipush E.x E.b hd hv (k H locs ls hP hS hl)
theorem b_iload_n (E : Eb p s m args meth c D cA N0 nL cc own) {j : Fin 4} {i : Nat} {x : Int32} (hd : decode cc pc = .ok (.iload_n j, 1)) (hi : (j : Nat) = i) (hg : lv[i]? = some (some (.int x))) (k : GB p l e R s m args below meth c D N0 nL Qf cells slots es (pc + 1) lv (.int x :: st)) : GB p l e R s m args below meth c D N0 nL Qf cells slots es pc lv st :=
  fun H locs ls hP hS hl => lv_iload_n E.x E.b hd hi (hl.2.2 _ _ hg) (k H locs ls hP hS hl)
theorem b_aload_n (E : Eb p s m args meth c D cA N0 nL cc own) {j : Fin 4} {i : Nat} {x : Nat} (hd : decode cc pc = .ok (.aload_n j, 1)) (hi : (j : Nat) = i) (hg : lv[i]? = some (some (.ref x))) (k : GB p l e R s m args below meth c D N0 nL Qf cells slots es (pc + 1) lv (.ref x :: st)) : GB p l e R s m args below meth c D N0 nL Qf cells slots es pc lv st :=
  fun H locs ls hP hS hl => lv_aload_n E.x E.b hd hi (hl.2.2 _ _ hg) (k H locs ls hP hS hl)
theorem b_istore_n (E : Eb p s m args meth c D cA N0 nL cc own) {j : Fin 4} {i : Nat} {x : Int32} (hd : decode cc pc = .ok (.istore_n j, 1)) (hi : (j : Nat) = i) (hn : Nat.ble (i + 1) nL = true) (hp : pv lv i = true) (hs : lv.set i (some (.int x)) = lv') (k : GB p l e R s m args below meth c D N0 nL Qf cells slots es (pc + 1) lv' st) : GB p l e R s m args below meth c D N0 nL Qf cells slots es pc lv (.int x :: st) := by
  subst hi
  intro H locs ls hP hS hl T hT Z
  obtain ⟨ls', e', h'⟩ := hl.store1 (v := .int x) (Nat.le_of_ble_eq_true hn) rfl hp
  obtain ⟨t, a, b⟩ := k H locs ls' hP hS (hs ▸ h') T hT Z
  refine ⟨t, ?_, b⟩
  jvm_step Z.here [Z.here.top, ↓top_set Z.here.top, E.x, E.b, hd, e']
  exact a
theorem b_astore_n (E : Eb p s m args meth c D cA N0 nL cc own) {j : Fin 4} {i : Nat} {x : Nat} (hd : decode cc pc = .ok (.astore_n j, 1)) (hi : (j : Nat) = i) (hn : Nat.ble (i + 1) nL = true) (hp : pv lv i = true) (hs : lv.set i (some (.ref x)) = lv') (k : GB p l e R s m args below meth c D N0 nL Qf cells slots es (pc + 1) lv' st) : GB p l e R s m args below meth c D N0 nL Qf cells slots es pc lv (.ref x :: st) := by
  subst hi
  intro H locs ls hP hS hl T hT Z
  obtain ⟨ls', e', h'⟩ := hl.store1 (v := .ref x) (Nat.le_of_ble_eq_true hn) rfl hp
  obtain ⟨t, a, b⟩ := k H locs ls' hP hS (hs ▸ h') T hT Z
  refine ⟨t, ?_, b⟩
  jvm_step Z.here [Z.here.top, ↓top_set Z.here.top, E.x, E.b, hd, e', Value.isRef]
  exact a
theorem b_iinc (E : Eb p s m args meth c D cA N0 nL cc own) {i : Nat} {n : Int} {x v : Int32} (hd : decode cc pc = .ok (.iinc i n, 3)) (hg : lv[i]? = some (some (.int x))) (hv : Int32.ofInt n = v) (hn : Nat.ble (i + 1) nL = true) (hp : pv lv i = true) (hs : lv.set i (some (.int (x + v))) = lv') (k : GB p l e R s m args below meth c D N0 nL Qf cells slots es (pc + 3) lv' st) : GB p l e R s m args below meth c D N0 nL Qf cells slots es pc lv st := by
  subst hv
  intro H locs ls hP hS hl T hT Z
  obtain ⟨ls', e', h'⟩ := hl.store1 (v := .int (x + Int32.ofInt n)) (Nat.le_of_ble_eq_true hn) rfl hp
  have hgg := hl.2.2 _ _ hg
  obtain ⟨t, a, b⟩ := k H locs ls' hP hS (hs ▸ h') T hT Z
  refine ⟨t, ?_, b⟩
  jvm_step Z.here [Z.here.top, ↓top_set Z.here.top, E.x, E.b, hd, hgg, e']
  exact a
theorem b_dup (E : Eb p s m args meth c D cA N0 nL cc own) {v : Value} (hd : decode cc pc = .ok (.dup, 1)) (hc : v.category = 1) (k : GB p l e R s m args below meth c D N0 nL Qf cells slots es (pc + 1) lv (v :: v :: st)) : GB p l e R s m args below meth c D N0 nL Qf cells slots es pc lv (v :: st) :=
  fun H locs ls hP hS hl => lv_dup E.x E.b hd hc (k H locs ls hP hS hl)
theorem b_goto (E : Eb p s m args meth c D cA N0 nL cc own) {off : Int} {tgt : Nat} (hd : decode cc pc = .ok (.goto off, 3)) (ht : (pc : Int) + off = (tgt : Int)) (k : GB p l e R s m args below meth c D N0 nL Qf cells slots es tgt lv st) : GB p l e R s m args below meth c D N0 nL Qf cells slots es pc lv st :=
  fun H locs ls hP hS hl => lv_goto E.x E.b hd ht (k H locs ls hP hS hl)
theorem b_icmp_ge (E : Eb p s m args meth c D cA N0 nL cc own) {x y : Int32} {off : Int} {tgt : Nat} (hd : decode cc pc = .ok (.if_icmp .ge off, 3)) (ht : (pc : Int) + off = (tgt : Int)) (kt : y ≤ x → GB p l e R s m args below meth c D N0 nL Qf cells slots es tgt lv st) (kf : ¬ (y ≤ x) → GB p l e R s m args below meth c D N0 nL Qf cells slots es (pc + 3) lv st) : GB p l e R s m args below meth c D N0 nL Qf cells slots es pc lv (.int y :: .int x :: st) :=
  fun H locs ls hP hS hl => lv_icmp_ge E.x E.b hd ht (fun z => kt z H locs ls hP hS hl) (fun z => kf z H locs ls hP hS hl)
theorem b_icmp_le (E : Eb p s m args meth c D cA N0 nL cc own) {x y : Int32} {off : Int} {tgt : Nat} (hd : decode cc pc = .ok (.if_icmp .le off, 3)) (ht : (pc : Int) + off = (tgt : Int)) (kt : x ≤ y → GB p l e R s m args below meth c D N0 nL Qf cells slots es tgt lv st) (kf : ¬ (x ≤ y) → GB p l e R s m args below meth c D N0 nL Qf cells slots es (pc + 3) lv st) : GB p l e R s m args below meth c D N0 nL Qf cells slots es pc lv (.int y :: .int x :: st) :=
  fun H locs ls hP hS hl => lv_icmp_le E.x E.b hd ht (fun z => kt z H locs ls hP hS hl) (fun z => kf z H locs ls hP hS hl)
theorem b_if_ge (E : Eb p s m args meth c D cA N0 nL cc own) {x : Int32} {off : Int} {tgt : Nat} (hd : decode cc pc = .ok (.ifCond .ge off, 3)) (ht : (pc : Int) + off = (tgt : Int)) (kt : 0 ≤ x → GB p l e R s m args below meth c D N0 nL Qf cells slots es tgt lv st) (kf : ¬ (0 ≤ x) → GB p l e R s m args below meth c D N0 nL Qf cells slots es (pc + 3) lv st) : GB p l e R s m args below meth c D N0 nL Qf cells slots es pc lv (.int x :: st) :=
  fun H locs ls hP hS hl => lv_if_ge E.x E.b hd ht (fun z => kt z H locs ls hP hS hl) (fun z => kf z H locs ls hP hS hl)
theorem b_if_lt (E : Eb p s m args meth c D cA N0 nL cc own) {x : Int32} {off : Int} {tgt : Nat} (hd : decode cc pc = .ok (.ifCond .lt off, 3)) (ht : (pc : Int) + off = (tgt : Int)) (kt : x < 0 → GB p l e R s m args below meth c D N0 nL Qf cells slots es tgt lv st) (kf : ¬ (x < 0) → GB p l e R s m args below meth c D N0 nL Qf cells slots es (pc + 3) lv st) : GB p l e R s m args below meth c D N0 nL Qf cells slots es pc lv (.int x :: st) :=
  fun H locs ls hP hS hl => lv_if_lt E.x E.b hd ht (fun z => kt z H locs ls hP hS hl) (fun z => kf z H locs ls hP hS hl)
theorem b_icmp_gt (E : Eb p s m args meth c D cA N0 nL cc own) {x y : Int32} {off : Int} {tgt : Nat} (hd : decode cc pc = .ok (.if_icmp .gt off, 3)) (ht : (pc : Int) + off = (tgt : Int)) (kt : y < x → GB p l e R s m args below meth c D N0 nL Qf cells slots es tgt lv st) (kf : ¬ (y < x) → GB p l e R s m args below meth c D N0 nL Qf cells slots es (pc + 3) lv st) : GB p l e R s m args below meth c D N0 nL Qf cells slots es pc lv (.int y :: .int x :: st) :=
  fun H locs ls hP hS hl => lv_icmp_gt E.x E.b hd ht (fun z => kt z H locs ls hP hS hl) (fun z => kf z H locs ls hP hS hl)
theorem b_mmax (E : Eb p s m args meth c D cA N0 nL cc own) {index : Nat} {x y : Int32} (h1 : Cond.methodLink own index Lib.Math.max.name ∈ WS) (h2 : Cond.static Lib.Math.max.name ∈ WS) (h3 : Cond.initialized "java/lang/Math" ∈ WS) (h4 : Cond.code Lib.Math.max.name Lib.Math.max.code 2 (some .int) ∈ WS) (hf : Nat.ble 1 R.frames = true) (hlo : Nat.ble 21 R.locals = true) (h8 : cat8 st = true) (hc0 : Nat.ble cells R.cells = true) (hs0 : Nat.ble slots R.slots = true) (hd : decode cc pc = .ok (.invokestatic index, 3))
    (kk : GB p l e R s m args below meth c D N0 nL Qf cells slots es (pc + 3) lv (.int (if x < y then y else x) :: st)) : GB p l e R s m args below meth c D N0 nL Qf cells slots es pc lv (.int y :: .int x :: st) :=
  fun H locs ls hP hS hl => va_mmax E.x E.b (E.ml.trans hl.1.symm) E.ow (E.ts _ h1) (E.ts _ h2) (E.ts _ h3) (E.ts _ h4) (Nat.le_of_ble_eq_true hf) (by have := Nat.le_of_ble_eq_true hlo; have := Nat.le_of_ble_eq_true h8; omega) (Nat.le_of_ble_eq_true hc0) (Nat.le_of_ble_eq_true hs0) hd (kk H locs ls hP hS hl)
theorem b_mmin (E : Eb p s m args meth c D cA N0 nL cc own) {index : Nat} {x y : Int32} (h1 : Cond.methodLink own index Lib.Math.min.name ∈ WS) (h2 : Cond.static Lib.Math.min.name ∈ WS) (h3 : Cond.initialized "java/lang/Math" ∈ WS) (h4 : Cond.code Lib.Math.min.name Lib.Math.min.code 2 (some .int) ∈ WS) (hf : Nat.ble 1 R.frames = true) (hlo : Nat.ble 21 R.locals = true) (h8 : cat8 st = true) (hc0 : Nat.ble cells R.cells = true) (hs0 : Nat.ble slots R.slots = true) (hd : decode cc pc = .ok (.invokestatic index, 3))
    (kk : GB p l e R s m args below meth c D N0 nL Qf cells slots es (pc + 3) lv (.int (if y < x then y else x) :: st)) : GB p l e R s m args below meth c D N0 nL Qf cells slots es pc lv (.int y :: .int x :: st) :=
  fun H locs ls hP hS hl => va_mmin E.x E.b (E.ml.trans hl.1.symm) E.ow (E.ts _ h1) (E.ts _ h2) (E.ts _ h3) (E.ts _ h4) (Nat.le_of_ble_eq_true hf) (by have := Nat.le_of_ble_eq_true hlo; have := Nat.le_of_ble_eq_true h8; omega) (Nat.le_of_ble_eq_true hc0) (Nat.le_of_ble_eq_true hs0) hd (kk H locs ls hP hS hl)
theorem b_forget (h : lvLe lv' lv) (k : GB p l e R s m args below meth c D N0 nL Qf cells slots es pc lv' st) : GB p l e R s m args below meth c D N0 nL Qf cells slots es pc lv st :=
  fun H locs ls hP hS hl => k H locs ls hP hS ⟨hl.1, hl.2.1, fun i v hv => hl.2.2 i v (lvLe_at h hv)⟩
theorem b_objInit (E : Eb p s m args meth c D cA N0 nL cc own) {a idx : Nat} (h1 : Cond.methodLink own idx Lib.objectInit ∈ WS) (h2 : Cond.instanceMethod Lib.objectInit ∈ WS) (h3 : Cond.code Lib.objectInit ⟨#[0xb1]⟩ 1 none ∈ WS) (hd : decode cc pc = .ok (.invokespecial idx, 3)) (hf : Nat.ble 1 R.frames = true) (hlo : Nat.ble 20 R.locals = true) (h8 : cat8 st = true) (k : GB p l e R s m args below meth c D N0 nL Qf cells slots es (pc + 3) lv st) : GB p l e R s m args below meth c D N0 nL Qf cells slots es pc lv (.ref a :: st) := by
  intro H locs ls hB hS hl
  refine W.objInit E.x E.b E.ow (E.ts _ h1) (E.ts _ h2) (E.ts _ h3) rfl (by rw [E.ml]; exact hl.1) rfl hd (Nat.le_of_ble_eq_true hf) ?_ (k H locs ls hB hS hl)
  have h9 := lv_room (m := m) (pc := pc) (ls := ls) (rest := st) (Nat.le_of_ble_eq_true h8)
  have := Nat.le_of_ble_eq_true hlo
  have h7 : (F0 m pc ls (.ref a :: st)).monitorRoom = (F0 m pc ls st).monitorRoom := rfl
  show 2 * (F0 m pc ls (.ref a :: st)).monitorRoom + _ + 12 ≤ _
  rw [h7]
  omega
theorem Bd.app {D : va_G} {N0 : Nat} {es : List va_E} {H H1 : Heap} {x : va_E} (hB : Bd D N0 es H) (z1 : H1.size = H.size + 1) (o1 : ∀ q, q < H.size → H1[q]? = H[q]?) (hx : va_at D vwCl (H.size, x) H1) : Bd D N0 (es ++ [x]) H1 := by
  refine ⟨by rw [z1, hB.1, List.length_append]; rfl, ?_⟩
  rw [bw_app, ← hB.1]
  refine (hB.2.kept (fun k q hq => o1 q.1 ((hB.2 k q hq).lt))).app (fun k q hq => ?_)
  have hz : k < 1 := (List.getElem?_eq_some_iff.mp hq).1
  rw [show k = 0 by omega] at hq
  cases hq
  exact hx
theorem S_app {A : Nat → Prop} {H0 H H1 : Heap} {locs : List Loc} (hS : va_S A H0 H locs) (z1 : H1.size = H.size + 1) (o1 : ∀ q, q < H.size → H1[q]? = H[q]?) : va_S A H0 H1 locs := ⟨Nat.le_trans hS.1 (by omega), fun x h1 h2 => (o1 x (Nat.lt_of_lt_of_le h1 hS.1)).trans (hS.2.1 x h1 h2), hS.2.2⟩
theorem b_new (E : Eb p s m args meth c D cA N0 nL cc own) {ci index : Nat} {C : String} {T : u_T} {N : Nat} {ty : Nat → FieldType} {fs : List Value} (hc : KC ci C T N ty) (h1 : Cond.classLink own index C ∈ WS) (h2 : Cond.instantiable C N ∈ WS) (h3 : Cond.initialized C ∈ WS) (hfs : ∀ j, j < N → defaultValue (ty j) = vp_V fs j) (hcells : Nat.ble (cells + 1) R.cells = true) (hslots : Nat.ble (slots + N) R.slots = true) (hd : decode cc pc = .ok (.new index, 3)) (kk : GB p l e R s m args below meth c D N0 nL Qf (cells + 1) (slots + N) (es ++ [.inr (ci, fs)]) (pc + 3) lv (.ref (N0 + es.length) :: st)) : GB p l e R s m args below meth c D N0 nL Qf cells slots es pc lv st := by
  intro H locs ls hB hS hl
  have hKn := E.kn.1.1 ci _ hc.1
  refine W.newcK E.x E.b E.ow (E.ts _ h1) (E.ts _ h2) (E.ts _ h3) rfl hd (Nat.le_of_ble_eq_true hcells) (Nat.le_of_ble_eq_true hslots) hKn.2.1 rfl fun H1 kC hkC e1 z1 o1 => ?_
  rw [show (F0 m pc ls st).stack = st from rfl]
  have := kk H1 locs ls (hB.app z1 o1 ⟨_, hc.1, (u_born ty E.ts hc.2.2.2 hKn hkC e1 hc.2.1).to hfs⟩) (S_app hS z1 o1) hl
  rw [← hB.1] at this
  exact this
theorem b_newa (E : Eb p s m args meth c D cA N0 nL cc own) {atype : ArrayType} {k0 N' : Nat} {n : Int32} (hk : (atype = .int ∧ k0 = 0) ∨ (atype = .byte ∧ k0 = 1)) (h1 : Cond.arrayClass (newarray.typeOf atype) ∈ WS) (hn : ¬ n < 0) (hN : n.toNatClampNeg = N') (hb : Nat.ble N' 100000 = true) (hcells : Nat.ble (cells + 1) R.cells = true) (hslots : Nat.ble (slots + N') R.slots = true) (hd : decode cc pc = .ok (.newarray atype, 2)) (kk : GB p l e R s m args below meth c D N0 nL Qf (cells + 1) (slots + N') (es ++ [.inl (cA k0, N', .inl (fun _ => 0))]) (pc + 2) lv (.ref (N0 + es.length) :: st)) : GB p l e R s m args below meth c D N0 nL Qf cells slots es pc lv (.int n :: st) := by
  intro H locs ls hB hS hl
  have hb := Nat.le_of_ble_eq_true hb
  refine va_newaK E.x E.b (E.ts _ h1) rfl hd rfl hn hN (by rcases hk with ⟨rfl, -⟩ | ⟨rfl, -⟩ <;> simp [newarray.typeOf, componentBytes] <;> omega) (Nat.le_of_ble_eq_true hcells) (Nat.le_of_ble_eq_true hslots) rfl fun H1 c1 e1 z1 o1 hAr hNm => ?_
  have hc1 : c1 = cA k0 := by
    rcases hk with ⟨rfl, rfl⟩ | ⟨rfl, rfl⟩
    · have := (E.kn.1.2 0 _ rfl).2
      exact Option.some.inj (hNm.symm.trans this)
    · have := (E.kn.1.2 1 _ rfl).2
      exact Option.some.inj (hNm.symm.trans this)
  subst hc1
  have := kk H1 locs ls (hB.app z1 o1 (by
    show H1[H.size]? = some (vp_cell _ _)
    rw [e1, vp_cell_i]
    rcases hk with ⟨rfl, -⟩ | ⟨rfl, -⟩ <;> rfl)) (S_app hS z1 o1) hl
  rw [← hB.1] at this
  exact this
theorem b_newq (E : Eb p s m args meth c D cA N0 nL cc own) {index k0 N' : Nat} {C : String} {n : Int32} (hk : (C = RX4 ∧ k0 = 2) ∨ (C = RX6 ∧ k0 = 3)) (h1 : Cond.classLink own index C ∈ WS) (hn : ¬ n < 0) (hN : n.toNatClampNeg = N') (hb : Nat.ble N' 100000 = true) (hcells : Nat.ble (cells + 1) R.cells = true) (hslots : Nat.ble (slots + N') R.slots = true) (hd : decode cc pc = .ok (.anewarray index, 3)) (kk : GB p l e R s m args below meth c D N0 nL Qf (cells + 1) (slots + N') (es ++ [.inl (cA k0, N', .inr (.inr (.inr (.inr (fun _ => none)))))]) (pc + 3) lv (.ref (N0 + es.length) :: st)) : GB p l e R s m args below meth c D N0 nL Qf cells slots es pc lv (.int n :: st) := by
  intro H locs ls hB hS hl
  have hb := Nat.le_of_ble_eq_true hb
  subst hN
  have hov : va_AO C s := by rcases hk with ⟨rfl, -⟩ | ⟨rfl, -⟩ <;> first | exact E.kn.2.1 | exact E.kn.2.2.1
  refine W.anew E.x E.b E.ow (E.ts _ h1) (va_AO.use hov) rfl hd rfl hn (by omega) (Nat.le_of_ble_eq_true hcells) (Nat.le_of_ble_eq_true hslots) fun c1 kA comp f1 f2 f3 f4 => ?_
  have hc1 : c1 = cA k0 := by
    rcases hk with ⟨rfl, rfl⟩ | ⟨rfl, rfl⟩
    · obtain ⟨_, _, _, _, _, g⟩ := (E.kn.1.2 2 _ rfl).2
      exact Option.some.inj (f1.symm.trans g)
    · obtain ⟨_, _, _, _, _, g⟩ := (E.kn.1.2 3 _ rfl).2
      exact Option.some.inj (f1.symm.trans g)
  subst hc1
  generalize hH1 : H.push ({ cls := cA k0, slots := Array.replicate n.toNatClampNeg .null, vm := .none } : Cell) = H1
  have z1 : H1.size = H.size + 1 := by rw [← hH1, Array.size_push]
  have e1 : H1[H.size]? = some (arrV (cA k0) n.toNatClampNeg (fun _ => .null)) := by rw [← hH1, Array.getElem?_push_size, ← arrV_new]
  have o1 : ∀ q : Nat, q < H.size → H1[q]? = H[q]? := fun q hq => by rw [← hH1, Array.getElem?_push, if_neg (Nat.ne_of_lt hq)]
  have := kk H1 locs ls (hB.app z1 o1 (by
    show H1[H.size]? = some (vp_cell _ _)
    rw [e1, vp_cell_q]
    rfl)) (S_app hS z1 o1) hl
  rw [← hB.1] at this
  exact this
/-- a field of a cell, final or not -/
theorem b_put (E : Eb p s m args meth c D cA N0 nL cc own) {ci i j index : Nat} {C : String} {T : u_T} {N : Nat} {ty : Nat → FieldType} {fs : List Value} {v : Value} (hc : KC ci C T N ty) (he : es[i]? = some (.inr (ci, fs))) (hj : Nat.ble (j + 1) N = true) (hl0 : Nat.ble (j + 1) fs.length = true) (hlink : Cond.fieldLink own index (T j).1 (T j).2.1 (T j).2.2.1 ∈ WS) (hin : meth.name = "<init>") (hdecl : (T j).1 = own) (hn : narrow (ty j) v = v) (hfit : fits (ty j) v = true) (hd : decode cc pc = .ok (.putfield index, 3)) (kk : GB p l e R s m args below meth c D N0 nL Qf cells slots (es.set i (.inr (ci, fs.set j v))) (pc + 3) lv st) : GB p l e R s m args below meth c D N0 nL Qf cells slots es pc lv (v :: .ref (N0 + i) :: st) := by
  intro H locs ls hB hS hl
  have hj := Nat.le_of_ble_eq_true hj
  have hl0 := Nat.le_of_ble_eq_true hl0
  have hg := bw_get (N0 := N0) he
  have hap := va_apart (own := own) E.ts hc.2.2.2 ty hc.2.1 hc.2.2.1 E.kn.1 hc.1
  obtain ⟨r, h1, cell, q1, q2, q3, q4⟩ := hB.2 i _ hg
  have hr : r = (C, T, N) := Option.some.inj (h1.symm.trans hc.1)
  subst hr
  obtain ⟨hS0, hfc, kC, hkC, hkind⟩ := E.kn.1.1 ci _ hc.1
  obtain ⟨cf, kf, fi, f, hi, hsl⟩ := hS0 j hj
  have hlay := E.ts _ (hc.2.2.2 _ (u_in_lay hj))
  have hst := (u_facts hfc hkC (u_lays E.ts hc.2.2.2 hj) hi).1
  have fin : ∀ H1 : Heap, H1[N0 + i]? = some (cell.setSlot (D.2 ci j) v) → H1.size = H.size → (∀ q, q ≠ N0 + i → H1[q]? = H[q]?) → W p l e R s m args below meth c H1 (locs ++ [⟨N0 + i, D.2 ci j⟩]) cells slots Qf (F0 m (pc + 3) ls st) := by
    intro H1 e1 e2 e3
    refine kk H1 _ ls ⟨by rw [e2, hB.1, List.length_set], ?_⟩ (hS.put e2 e3 (Nat.le_add_right _ _)) hl
    rw [← bw_set]
    exact hB.2.set (bw_D N0 es) hg ⟨_, hc.1, t_OB.to (V := updV (vp_V fs) j v) ⟨_, e1, q2, q3, t_set q4 hap hj v⟩ (fun k _ => vp_updV_set hl0 v k)⟩ e3
  unfold u_lay at hlay
  by_cases hfin : (T j).2.2.2 = true
  · rw [if_pos hfin] at hlay
    have hcf : m.cls = cf := by
      obtain ⟨_, _, c', _, _, _, -, -, hf', -, -, -, hown2, -⟩ := Cond.laysFinal_spec hlay
      have e1 : c' = cf := by have := hi.symm.trans hf'; simp at this; exact this.1.symm
      rw [hdecl] at hown2
      rw [← e1]; exact Option.some.inj (E.ow.symm.trans hown2)
    have h6 := u_fits hfc hkC hkind (Or.inr hlay) hi (hc.2.1 j hj) hn hfit
    refine W.putFinK E.x E.b E.ow (E.ts _ hlink) hi hst hcf hin (by rw [q2]; exact h6) q1 q3 (by rw [hsl]; exact k2_hasslot (q4 j hj)) rfl rfl hd fun H' e1 e2 e3 => ?_
    rw [hsl] at e1 ⊢
    exact fin H' e1 e2 e3
  · rw [if_neg hfin] at hlay
    have h6 := u_store hfc hkC hkind hlay hi (hc.2.1 j hj) hn hfit
    refine W.putK E.x E.b (f := f) ⟨E.ow, E.ts _ hlink, ⟨_, _, _, hi⟩, hst⟩ (by rw [q2]; exact h6) q1 q3 (by rw [hsl]; exact k2_hasslot (q4 j hj)) rfl rfl hd fun H' e1 e2 e3 => ?_
    rw [hsl] at e1 ⊢
    exact fin H' e1 e2 e3
theorem b_get (E : Eb p s m args meth c D cA N0 nL cc own) {ci i j index : Nat} {C : String} {T : u_T} {N : Nat} {ty : Nat → FieldType} {fs : List Value} {v : Value} (hc : KC ci C T N ty) (he : es[i]? = some (.inr (ci, fs))) (hj : Nat.ble (j + 1) N = true) (hlink : Cond.fieldLink own index (T j).1 (T j).2.1 (T j).2.2.1 ∈ WS) (hv : fs[j]? = some v) (hd : decode cc pc = .ok (.getfield index, 3)) (kk : GB p l e R s m args below meth c D N0 nL Qf cells slots es (pc + 3) lv (v :: st)) : GB p l e R s m args below meth c D N0 nL Qf cells slots es pc lv (.ref (N0 + i) :: st) :=
  fun H locs ls hB hS hl => va_get (D := D) (tys := tyC cA) (C := C) (T := T) (N := N) E.x E.b E.ts hc.2.2.2 E.ow E.kn.1 hB.2 i (bw_get he) hc.1 j (Nat.le_of_ble_eq_true hj) (E.ts _ hlink) (fun _ h9 => h9) hv hd (kk H locs ls hB hS hl)
theorem b_alenq (E : Eb p s m args meth c D cA N0 nL cc own) {i k0 n : Nat} {f : Nat → Option Nat} {v : Int32} (hk : k0 = 2 ∨ k0 = 3) (he : es[i]? = some (.inl (cA k0, n, .inr (.inr (.inr (.inr f)))))) (hv : Int32.ofNat n = v) (hd : decode cc pc = .ok (.arraylength, 1)) (kk : GB p l e R s m args below meth c D N0 nL Qf cells slots es (pc + 1) lv (.int v :: st)) : GB p l e R s m args below meth c D N0 nL Qf cells slots es pc lv (.ref (N0 + i) :: st) := by
  intro H locs ls hB hS hl
  rcases hk with rfl | rfl
  · exact va_alen (D := D) (tys := tyC cA) E.x E.b E.kn.1 hB.2 i 2 (bw_get he) rfl hv hd (kk H locs ls hB hS hl)
  · exact va_alen (D := D) (tys := tyC cA) E.x E.b E.kn.1 hB.2 i 3 (bw_get he) rfl hv hd (kk H locs ls hB hS hl)
theorem b_aast (E : Eb p s m args meth c D cA N0 nL cc own) {i k0 n ci iv : Nat} {C : String} {T : u_T} {N : Nat} {ty : Nat → FieldType} {f : Nat → Option Nat} {vs : List Value} {x : Int32} (hc : KC ci C T N ty) (hk : (C = RX4 ∧ k0 = 2) ∨ (C = RX6 ∧ k0 = 3)) (he : es[i]? = some (.inl (cA k0, n, .inr (.inr (.inr (.inr f)))))) (hv : es[iv]? = some (.inr (ci, vs))) (hin : vp_in x n) (hd : decode cc pc = .ok (.aastore, 1)) (kk : GB p l e R s m args below meth c D N0 nL Qf cells slots (es.set i (.inl (cA k0, n, .inr (.inr (.inr (.inr (va_up f x.toNatClampNeg (some (N0 + iv))))))))) (pc + 1) lv st) : GB p l e R s m args below meth c D N0 nL Qf cells slots es pc lv (.ref (N0 + iv) :: .int x :: .ref (N0 + i) :: st) := by
  intro H locs ls hB hS hl
  have hlt : x.toNatClampNeg < n := Nat.not_le.mp fun q => hin (Or.inr q)
  have h0 : ¬ x < 0 := fun q => hin (Or.inl q)
  have hg := bw_get (N0 := N0) he
  obtain ⟨r', hr', cellV, g1, g2, g3, -⟩ := hB.2 iv _ (bw_get hv)
  have hcls := (E.kn.1.1 ci _ hc.1).2
  have hra : va_RA s (cA k0) (.object C) := by
    rcases hk with ⟨rfl, rfl⟩ | ⟨rfl, rfl⟩
    · exact (E.kn.1.2 2 _ rfl).2
    · exact (E.kn.1.2 3 _ rfl).2
  obtain ⟨kA, comp, k1, k2, k3, -⟩ := hra
  have hcomp : comp = D.1 ci := Option.some.inj (k3.symm.trans hcls.1)
  subst hcomp
  obtain ⟨kC, hkC, -⟩ := hcls.2
  refine W.aast E.x E.b (hB.2 i _ hg) (fun q h => by cases h) (fun h => by cases h) k1 k2 rfl hkC ⟨h0, by show _ < (arrV _ _ _).slots.size; rw [arrV_size]; exact hlt⟩ g1 (fun q h => by rw [g3] at h; cases h) (by rw [g2]; exact hkC) (by rw [g2]; exact va_assign hcls) rfl rfl hd fun H1 e z oq => ?_
  refine kk H1 _ ls ⟨by rw [z, hB.1, List.length_set], ?_⟩ (hS.put z oq (Nat.le_add_right _ _)) hl
  rw [← bw_set]
  refine hB.2.set (bw_D N0 es) hg ?_ oq
  show H1[N0 + i]? = some (vp_cell _ _)
  rw [e]
  rw [vp_cell_q, vp_cell_q, arrV_store]
  congr 2
  funext q
  by_cases hq : q = x.toNatClampNeg
  · subst hq
    simp [updV, va_up, va_rf]
  · simp [updV, va_up, hq]
/-- a constructor's contract: es becomes es' -/
abbrev MetB (l : Launch) (y : MethodName) (ws : List Cond) (rm : Room) (D : va_G) (cA : Nat → ClassId) (N0 : Nat) (es : List va_E) (As : List Value) (es' : List va_E) (mc ms : Nat) : Prop := Met l y ws rm (va_Pc As (fun U => Bd D N0 es U.heap ∧ Kn D cA U)) (va_Qv (fun u : List va_E => u = es') (fun u t => Bd D N0 u t.heap) (fun q => N0 ≤ q)) mc ms (fun q => N0 ≤ q)
def rOkB (rm R : Room) (maxL mc ms : Nat) : Bool := Nat.ble (rm.frames + 1) R.frames && Nat.ble (8 + (maxL + 11) + rm.locals) R.locals && (rm.cells == mc) && (rm.slots == ms)
theorem rOkB_spec {rm R : Room} {maxL mc ms : Nat} (h : rOkB rm R maxL mc ms = true) : (rm.frames + 1 ≤ R.frames ∧ 8 + (maxL + 11) + rm.locals ≤ R.locals) ∧ rm.cells = mc ∧ rm.slots = ms := by
  simp only [rOkB, Bool.and_eq_true, beq_iff_eq] at h
  exact ⟨⟨Nat.le_of_ble_eq_true h.1.1.1, Nat.le_of_ble_eq_true h.1.1.2⟩, h.1.2, h.2⟩
def CIi (y : MethodName) (bytes : ByteArray) (maxL n : Nat) : Prop := Cond.instanceMethod y ∈ WS ∧ Cond.initialized y.cls ∈ WS ∧ Cond.code y bytes maxL none ∈ WS ∧ y.name = "<init>" ∧ (y.cls ≠ "java/lang/invoke/MethodHandle" ∧ y.cls ≠ "java/lang/invoke/VarHandle" ∧ (parseMethodDescriptor y.desc).map (fun d => d.parameters.length) = some n)
theorem mb_blind {es : List va_E} {As : List Value} : FrameBlind (va_Pc As (fun U => Bd D N0 es U.heap ∧ Kn D cA U)) := fun a U g mk h => ⟨h.1, h.2.1, Kn.same (s := U) (U := U.calling g mk a) rfl h.2.2⟩
theorem b_callN (E : Eb p s m args meth c D cA N0 nL cc own) {y : MethodName} {bytes : ByteArray} {maxL n index i mc ms b : Nat} {rm : Room} {As rest : List Value} {es' : List va_E} (hM : MetB l y (wS y bytes maxL none) rm D cA N0 es (.ref b :: As) es' mc ms) (hci : CIi y bytes maxL n) (hml : nestL[i]? = some (own, index, y)) (hr : rOkB rm R maxL mc ms = true) (hn : As.length = n) (hst : st = As.reverse ++ .ref b :: rest) (h8 : cat8 rest = true) (hd : decode cc pc = .ok (.invokespecial index, 3)) (hcells : Nat.ble (cells + mc) R.cells = true) (hslots : Nat.ble (slots + ms) R.slots = true)
    (kk : GB p l e R s m args below meth c D N0 nL Qf (cells + mc) (slots + ms) es' (pc + 3) lv rest) : GB p l e R s m args below meth c D N0 nL Qf cells slots es pc lv st := by
  obtain ⟨c1, c2, c3, c4, c5⟩ := hci
  obtain ⟨g1, g2, g3⟩ := rOkB_spec hr
  intro H locs ls hB hS hl
  refine va_callv (va_runIN (As := As) (rest := rest) ⟨E.x, E.b, E.ml, E.ow, E.ts⟩ hM ⟨va_cnB n E.ts (wS_good (fun w h => h) c3) rfl g2 g3 (E.kn.2.2.2 i _ hml) (E.ts _ c2) c5 g1, c4, E.ts _ c1⟩ ⟨mb_blind, fun U hU hW => ⟨rfl, by rw [hU]; exact hB, E.kn.warm hW⟩⟩ rfl hn hl.1 hst (lv_room (Nat.le_of_ble_eq_true h8)) hd ⟨Nat.le_of_ble_eq_true hcells, Nat.le_of_ble_eq_true hslots⟩) hS (fun q _ h => h) (fun q h => h) (fun u t H1 locs1 ht _ hp hB1 _ _ hS1 => ?_)
  subst hp
  exact kk H1 locs1 ls (ht ▸ hB1) hS1 hl
theorem b_callI (E : Eb p s m args meth c D cA N0 nL cc own) {y : MethodName} {bytes : ByteArray} {maxL n index mc ms b : Nat} {rm : Room} {As rest : List Value} {es' : List va_E} (hM : MetB l y (wS y bytes maxL none) rm D cA N0 es (.ref b :: As) es' mc ms) (hci : CIi y bytes maxL n) (hml : Cond.methodLink own index y ∈ WS) (hr : rOkB rm R maxL mc ms = true) (hn : As.length = n) (hst : st = As.reverse ++ .ref b :: rest) (h8 : cat8 rest = true) (hd : decode cc pc = .ok (.invokespecial index, 3)) (hcells : Nat.ble (cells + mc) R.cells = true) (hslots : Nat.ble (slots + ms) R.slots = true)
    (kk : GB p l e R s m args below meth c D N0 nL Qf (cells + mc) (slots + ms) es' (pc + 3) lv rest) : GB p l e R s m args below meth c D N0 nL Qf cells slots es pc lv st := by
  obtain ⟨c1, c2, c3, c4, c5⟩ := hci
  obtain ⟨g1, g2, g3⟩ := rOkB_spec hr
  intro H locs ls hB hS hl
  refine va_callv (va_runI (As := As) (rest := rest) ⟨E.x, E.b, E.ml, E.ow, E.ts⟩ hM (cwI n E.ts (wS_good (fun w h => h) c3) rfl g2 g3 (E.ts _ c2) (E.ts _ hml) (E.ts _ c1) c4 c5 g1) ⟨mb_blind, fun U hU hW => ⟨rfl, by rw [hU]; exact hB, E.kn.warm hW⟩⟩ rfl hn hl.1 hst (lv_room (Nat.le_of_ble_eq_true h8)) hd ⟨Nat.le_of_ble_eq_true hcells, Nat.le_of_ble_eq_true hslots⟩) hS (fun q _ h => h) (fun q h => h) (fun u t H1 locs1 ht _ hp hB1 _ _ hS1 => ?_)
  subst hp
  exact kk H1 locs1 ls (ht ▸ hB1) hS1 hl
theorem b_vret {es' : List va_E} (E : Eb p s m args meth c D cA N0 nL cc own) (hr : meth.sig.returnType = none) (hd : decode cc pc = .ok (.return_, 1)) (he : es = es') : GB p l e R s m args below meth c D N0 nL (MQ below (va_Qv (fun u : List va_E => u = es') (fun u t => Bd D N0 u t.heap) (fun q => N0 ≤ q)) args s cells slots (fun q => N0 ≤ q)) cells slots es pc lv [] :=
  fun H locs ls hB hS hl => W.vret E.x E.b hr (fun t ht hW => ⟨⟨es, rfl, he, by show Bd D N0 es t.heap; rw [ht]; exact hB⟩, hS.F ht⟩) hS.2.2 hd E.lk
theorem metB {y : MethodName} {bytes : ByteArray} {maxL k mc ms : Nat} {rm : Room} {es es' : List va_E} {As : List Value} {lv0 : List (Option Value)} (hy : plainName y.cls = true) (ho : y.cls = own) (hi : y.name = "<init>") (hk : Nat.ble (lg_sl As).length maxL = true) (hlv : lvE As ++ List.replicate k none = lv0)
    (body : ∀ (p : Program) (e : Env) (s : State) (m : MethodId) (args : Array Value) (below : List Frame) (meth : Method) (c : Code), Eb p s m args meth c D cA N0 maxL bytes own → meth.sig.returnType = none → meth.name = "<init>" → GB p l e rm s m args below meth c D N0 maxL (MQ below (va_Qv (fun u : List va_E => u = es') (fun u t => Bd D N0 u t.heap) (fun q => N0 ≤ q)) args s mc ms (fun q => N0 ≤ q)) 0 0 es 0 lv0 []) : MetB l y (wS y bytes maxL none) rm D cA N0 es As es' mc ms := by
  refine Met.ofW (cc := bytes) (maxL := maxL) (ret := none) hy rfl ?_
  intro p e s m args below meth c s₁ B hml hv
  obtain ⟨rfl, hB, hK⟩ := hv
  have hts := atoms_spec (ws := wS y bytes maxL none) B.pre
  have hown : s.vm.findClass own = some m.cls := ho ▸ findClass_of_methodNamed B.named
  have hin : meth.name = "<init>" := (name_of_methodNamed B.named B.method).1.trans hi
  have E : Eb p s m As.toArray meth c D cA N0 maxL bytes own := ⟨B.exec, B.bytes, hml, hown, fun w h => hts w (List.mem_cons_of_mem _ h), hK, B.notSynchronized, by rw [hB.1]; exact Nat.le_add_right _ _⟩
  rw [lg_entry_eq]
  subst hlv
  exact body p e s m As.toArray below meth c E B.returns hin s.heap [] _ hB va_S.rf (Lv.entry As (Nat.le_of_ble_eq_true hk))
theorem b_cs {cells' slots' : Nat} (hc : cells = cells') (hs : slots = slots') (k : GB p l e R s m args below meth c D N0 nL Qf cells' slots' es pc lv st) : GB p l e R s m args below meth c D N0 nL Qf cells slots es pc lv st := by
  subst hc; subst hs; exact k
theorem b_es {es' : List va_E} (h : es = es') (k : GB p l e R s m args below meth c D N0 nL Qf cells slots es' pc lv st) : GB p l e R s m args below meth c D N0 nL Qf cells slots es pc lv st := by
  subst h; exact k
end GBS
