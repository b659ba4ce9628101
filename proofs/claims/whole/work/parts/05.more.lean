/-! more rows: names, forgetting, switches, cells by name -/
def lvLe : List (Option Value) → List (Option Value) → Prop
  | [], _ => True
  | none :: a, _ :: b => lvLe a b
  | some v :: a, some w :: b => v = w ∧ lvLe a b
  | _, _ => False
theorem le_0 {b : List (Option Value)} : lvLe [] b := trivial
theorem le_n {a b : List (Option Value)} {x : Option Value} (h : lvLe a b) : lvLe (none :: a) (x :: b) := by
  cases x <;> exact h
theorem le_s {a b : List (Option Value)} {v : Value} (h : lvLe a b) : lvLe (some v :: a) (some v :: b) := ⟨rfl, h⟩
theorem lvLe_at : ∀ {a b : List (Option Value)} {i : Nat} {v : Value}, lvLe a b → a[i]? = some (some v) → b[i]? = some (some v) := by
  intro a
  induction a with
  | nil => intro b i v _ h; simp at h
  | cons x a ih =>
    intro b i v hle h
    cases b with
    | nil => cases x <;> exact hle.elim
    | cons y b =>
      cases x with
      | none =>
        have hle : lvLe a b := by cases y <;> exact hle
        cases i with
        | zero => simp at h
        | succ i =>
          simp only [List.getElem?_cons_succ] at h ⊢
          exact ih hle h
      | some w =>
        cases y with
        | none => exact hle.elim
        | some z =>
          obtain ⟨rfl, hle⟩ := hle
          cases i with
          | zero => exact h
          | succ i =>
            simp only [List.getElem?_cons_succ] at h ⊢
            exact ih hle h
section GM
variable {p : Program} {l : Launch} {e : Env} {R : Room} {s : State} {m : MethodId} {args : Array Value} {below : List Frame} {meth : Method} {c : Code} {X : XT} {A : Nat → Prop} {nL cells slots : Nat} {Qf : State → Prop} {cc : ByteArray} {own : String}
variable {σ : ST} {pc : Nat} {lv lv' : List (Option Value)} {st : List Value}
theorem r_forget (h : lvLe lv' lv) (k : G p l e R s m args below meth c X A nL cells slots Qf σ pc lv' st) : G p l e R s m args below meth c X A nL cells slots Qf σ pc lv st :=
  fun H locs ls hP hS hl => k H locs ls hP hS ⟨hl.1, hl.2.1, fun i v hv => hl.2.2 i v (lvLe_at h hv)⟩
theorem r_topi {x : Int32} (k : ∀ y : Int32, y = x → G p l e R s m args below meth c X A nL cells slots Qf σ pc lv (.int y :: st)) : G p l e R s m args below meth c X A nL cells slots Qf σ pc lv (.int x :: st) := k x rfl
theorem r_topl {x : Int64} (k : ∀ y : Int64, y = x → G p l e R s m args below meth c X A nL cells slots Qf σ pc lv (.long y :: st)) : G p l e R s m args below meth c X A nL cells slots Qf σ pc lv (.long x :: st) := k x rfl
theorem in_lt {i : Int32} {n : Nat} (h : vp_in i n) : i.toNatClampNeg < n := Nat.not_le.mp fun q => h (Or.inr q)
theorem r_aldSn (E : Ev p R s m args meth c X A nL cells slots cc own) {i : Int32} (hi : vp_in i 10) (hd : decode cc pc = .ok (.aaload, 1)) (kk : ∀ k : Nat, k = 23 + i.toNatClampNeg → okc 4 k → G p l e R s m args below meth c X A nL cells slots Qf σ (pc + 1) lv (.ref (xa X k) :: st)) : G p l e R s m args below meth c X A nL cells slots Qf σ pc lv (.int i :: .ref (xa X 1) :: st) :=
  r_aldS E hi hd (kk _ rfl (okS (in_lt hi)))
theorem r_aldTn (E : Ev p R s m args meth c X A nL cells slots cc own) {i : Int32} (hi : vp_in i 30) (h30 : (σ 3 i.toNatClampNeg).toNatClampNeg < 30) (hd : decode cc pc = .ok (.aaload, 1)) (kk : ∀ k : Nat, k = 33 + (σ 3 i.toNatClampNeg).toNatClampNeg → okc 6 k → G p l e R s m args below meth c X A nL cells slots Qf σ (pc + 1) lv (.ref (xa X k) :: st)) : G p l e R s m args below meth c X A nL cells slots Qf σ pc lv (.int i :: .ref (xa X 3) :: st) :=
  r_aldT E hi hd (kk _ rfl (okT h30))
theorem okR : ∀ i, i < 2 → kd (7 + i) = 3 := by decide
theorem r_getR (E : Ev p R s m args meth c X A nL cells slots cc own) {j index : Nat} (hj : j = 11 ∨ j = 12) (hc : KC 8 RX8 TX8 16 tyX8) (hlink : Cond.fieldLink own index (TX8 j).1 (TX8 j).2.1 (TX8 j).2.2.1 ∈ WS) (h2 : (σ 0 j).toNatClampNeg < 2) (hd : decode cc pc = .ok (.getfield index, 3))
    (kk : ∀ k : Nat, k = 7 + (σ 0 j).toNatClampNeg → okc 3 k → G p l e R s m args below meth c X A nL cells slots Qf σ (pc + 3) lv (.ref (xa X k) :: st)) : G p l e R s m args below meth c X A nL cells slots Qf σ pc lv (.ref (xa X 0) :: st) := by
  refine r_get (v := .ref (xa X (7 + (σ 0 j).toNatClampNeg))) E ⟨by decide, by decide⟩ hc (by rcases hj with rfl | rfl <;> rfl) hlink (by rcases hj with rfl | rfl <;> rfl) hd (kk _ rfl ⟨by omega, okR _ h2⟩)
theorem r_tabIn (E : Ev p R s m args meth c X A nL cells slots cc own) {dflt lo hi : Int} {offs : Array Int} {len : Nat} {x v : Int32} {off : Int} {tgt : Nat} (hx : x = v) (hd : decode cc pc = .ok (.tableswitch dflt lo hi offs, len)) (h1 : ¬ v.toInt < lo) (h2 : ¬ hi < v.toInt) (ho : offs[(v.toInt - lo).toNat]? = some off) (ht : (pc : Int) + off = (tgt : Int)) (k : G p l e R s m args below meth c X A nL cells slots Qf σ tgt lv st) : G p l e R s m args below meth c X A nL cells slots Qf σ pc lv (.int x :: st) := by
  subst hx
  exact fun H locs ls hP hS hl => lv_tableIn E.x E.b hd h1 h2 ho ht (k H locs ls hP hS hl)
theorem tab_out {x : Int32} (lo n : Nat) (hn : lo + n < 2 ^ 31) (h : ∀ j : Nat, j < n → ¬ x = nI (lo + j)) : x.toInt < (lo : Int) ∨ ((lo + n : Nat) : Int) ≤ x.toInt := by
  rcases Int.lt_or_le x.toInt lo with h1 | h1
  · exact Or.inl h1
  rcases Int.lt_or_le x.toInt ((lo + n : Nat) : Int) with h2 | h2
  · exfalso
    have h3 : 0 ≤ x.toInt := by omega
    obtain ⟨j, hj⟩ := Int.eq_ofNat_of_zero_le h3
    refine h (j - lo) (by omega) ?_
    rw [show lo + (j - lo) = j by omega]
    apply Int32.toInt_inj.mp
    rw [nI_toInt (by omega), hj]
  · exact Or.inr h2
theorem r_tabOut (E : Ev p R s m args meth c X A nL cells slots cc own) {dflt lo hi : Int} {offs : Array Int} {len : Nat} {x : Int32} {tgt : Nat} (l0 n : Nat) (hn : l0 + n < 2 ^ 31) (hx : ∀ j : Nat, j < n → ¬ x = nI (l0 + j)) (hd : decode cc pc = .ok (.tableswitch dflt lo hi offs, len)) (hl0 : lo = (l0 : Int)) (hh : hi + 1 = ((l0 + n : Nat) : Int)) (ht : (pc : Int) + dflt = (tgt : Int)) (k : G p l e R s m args below meth c X A nL cells slots Qf σ tgt lv st) : G p l e R s m args below meth c X A nL cells slots Qf σ pc lv (.int x :: st) := by
  have h := tab_out l0 n hn hx
  exact fun H locs ls hP hS hl => lv_tableOut E.x E.b hd (by rcases h with h | h <;> omega) ht (k H locs ls hP hS hl)
theorem r_lookIn (E : Ev p R s m args meth c X A nL cells slots cc own) {dflt : Int} {ps : Array (Int × Int)} {len : Nat} {x v : Int32} {off : Int} {tgt : Nat} (hx : x = v) (hd : decode cc pc = .ok (.lookupswitch dflt ps, len)) (hp : (ps.toList.zip (ps.toList.drop 1)).all (fun (a, next) => a.1 < next.1) = true) (ho : Op.lookupswitch.offset ps.toList dflt v.toInt = off) (ht : (pc : Int) + off = (tgt : Int)) (k : G p l e R s m args below meth c X A nL cells slots Qf σ tgt lv st) : G p l e R s m args below meth c X A nL cells slots Qf σ pc lv (.int x :: st) := by
  subst hx
  exact fun H locs ls hP hS hl => lv_lookup E.x E.b hd hp ho ht (k H locs ls hP hS hl)
theorem r_lookOut (E : Ev p R s m args meth c X A nL cells slots cc own) {dflt : Int} {ps : Array (Int × Int)} {len : Nat} {x : Int32} {tgt : Nat} (hd : decode cc pc = .ok (.lookupswitch dflt ps, len)) (hp : (ps.toList.zip (ps.toList.drop 1)).all (fun (a, next) => a.1 < next.1) = true) (ho : Op.lookupswitch.offset ps.toList dflt x.toInt = dflt) (ht : (pc : Int) + dflt = (tgt : Int)) (k : G p l e R s m args below meth c X A nL cells slots Qf σ tgt lv st) : G p l e R s m args below meth c X A nL cells slots Qf σ pc lv (.int x :: st) :=
  fun H locs ls hP hS hl => lv_lookup E.x E.b hd hp ho ht (k H locs ls hP hS hl)
theorem r_ldcw (E : Ev p R s m args meth c X A nL cells slots cc own) {index : Nat} {v : Int32} (hw : Cond.constant own index v ∈ WS) (hd : decode cc pc = .ok (.ldc_w index, 3)) (k : G p l e R s m args below meth c X A nL cells slots Qf σ (pc + 3) lv (.int v :: st)) : G p l e R s m args below meth c X A nL cells slots Qf σ pc lv st :=
  fun H locs ls hP hS hl => lv_ldcw E.x E.b E.ow (E.ts _ hw) hd (k H locs ls hP hS hl)
end GM
theorem kc_0 : KC 0 RX0 TX0 2 tyX0 := ⟨rfl, tyX0_ok, nmX0, iw_0⟩
theorem kc_1 : KC 1 RX1 TX1 4 tyX1 := ⟨rfl, tyX1_ok, nmX1, iw_1⟩
theorem kc_2 : KC 2 RX2 TX2 9 tyX2 := ⟨rfl, tyX2_ok, nmX2, iw_2⟩
theorem kc_3 : KC 3 RX3 TX3 8 tyX3 := ⟨rfl, tyX3_ok, nmX3, iw_3⟩
theorem kc_4 : KC 4 RX4 TX4 7 tyX4 := ⟨rfl, tyX4_ok, nmX4, iw_4⟩
theorem kc_5 : KC 5 RX5 TX5 2 tyX5 := ⟨rfl, tyX5_ok, nmX5, iw_5⟩
theorem kc_6 : KC 6 RX6 TX6 7 tyX6 := ⟨rfl, tyX6_ok, nmX6, iw_6⟩
theorem kc_7 : KC 7 RX7 TX7 5 tyX7 := ⟨rfl, tyX7_ok, nmX7, iw_7⟩
theorem kc_8 : KC 8 RX8 TX8 16 tyX8 := ⟨rfl, tyX8_ok, nmX8, iw_8⟩
theorem kc_9 : KC 9 RX9 TX9 55 tyX9 := ⟨rfl, tyX9_ok, nmX9, iw_9⟩
theorem ok_0 : okc 8 0 := ⟨by decide, by decide⟩
theorem ok_1 : okc 12 1 := ⟨by decide, by decide⟩
theorem ok_2 : okc 7 2 := ⟨by decide, by decide⟩
theorem ok_3 : okc 13 3 := ⟨by decide, by decide⟩
theorem ok_4 : okc 2 4 := ⟨by decide, by decide⟩
theorem ok_5 : okc 5 5 := ⟨by decide, by decide⟩
theorem ok_6 : okc 11 6 := ⟨by decide, by decide⟩
theorem ok_17 : okc 1 17 := ⟨by decide, by decide⟩
theorem ok_18 : okc 10 18 := ⟨by decide, by decide⟩
theorem ok_19 : okc 10 19 := ⟨by decide, by decide⟩
theorem ok_20 : okc 10 20 := ⟨by decide, by decide⟩
theorem ok_21 : okc 0 21 := ⟨by decide, by decide⟩
theorem ok_22 : okc 10 22 := ⟨by decide, by decide⟩
theorem ok_63 : okc 9 63 := ⟨by decide, by decide⟩
theorem ok_64 : okc 10 64 := ⟨by decide, by decide⟩
theorem ok_65 : okc 10 65 := ⟨by decide, by decide⟩
theorem ok_66 : okc 10 66 := ⟨by decide, by decide⟩
theorem ok_67 : okc 10 67 := ⟨by decide, by decide⟩
theorem ok_68 : okc 10 68 := ⟨by decide, by decide⟩
theorem ok_69 : okc 10 69 := ⟨by decide, by decide⟩
theorem ok_70 : okc 10 70 := ⟨by decide, by decide⟩
theorem ok_71 : okc 10 71 := ⟨by decide, by decide⟩
theorem ok_72 : okc 10 72 := ⟨by decide, by decide⟩
theorem ok_73 : okc 10 73 := ⟨by decide, by decide⟩
theorem ok_74 : okc 10 74 := ⟨by decide, by decide⟩
theorem ok_75 : okc 10 75 := ⟨by decide, by decide⟩
theorem ok_76 : okc 10 76 := ⟨by decide, by decide⟩
theorem ok_77 : okc 10 77 := ⟨by decide, by decide⟩
theorem ok_78 : okc 10 78 := ⟨by decide, by decide⟩
theorem ok_79 : okc 10 79 := ⟨by decide, by decide⟩
theorem ok_80 : okc 10 80 := ⟨by decide, by decide⟩
theorem ok_81 : okc 10 81 := ⟨by decide, by decide⟩
theorem ok_82 : okc 10 82 := ⟨by decide, by decide⟩
theorem ok_83 : okc 10 83 := ⟨by decide, by decide⟩
theorem ok_84 : okc 10 84 := ⟨by decide, by decide⟩
theorem ok_85 : okc 10 85 := ⟨by decide, by decide⟩
theorem ok_86 : okc 10 86 := ⟨by decide, by decide⟩
theorem ok_87 : okc 10 87 := ⟨by decide, by decide⟩
theorem ok_88 : okc 10 88 := ⟨by decide, by decide⟩
theorem ok_89 : okc 10 89 := ⟨by decide, by decide⟩
