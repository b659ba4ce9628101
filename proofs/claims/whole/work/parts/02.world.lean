/-! ONE STATE OF BOTH SYSTEMS: cells 0..62 are the class's, 63..89 the reference's; σ k j is field or element j of cell k -/
abbrev XT : Type := (Nat → ClassId) × (Nat → Nat → Nat) × (Nat → Nat) × (Nat → ClassId) × (Nat → Nat) × (Nat → Nat)
def xD (X : XT) : va_G := (X.1, X.2.1)
def xa (X : XT) : Nat → Nat := X.2.2.1
def xc (X : XT) : Nat → ClassId := X.2.2.2.1
def xk (X : XT) : Nat → Nat := X.2.2.2.2.1
def xv (X : XT) : Nat → Nat := X.2.2.2.2.2
def xA (X : XT) : Nat → Prop := fun q => ∃ k, k < 90 ∧ q = xa X k
abbrev ST : Type := Nat → Nat → Int32
def up (σ : ST) (k j : Nat) (v : Int32) : ST := fun a b => if a = k ∧ b = j then v else σ a b
def kdL : List Nat := [8, 12, 7, 13, 2, 5, 11, 3, 3, 10, 10, 10, 10, 10, 10, 10, 10, 1, 10, 10, 10, 0, 10] ++ List.replicate 10 4 ++ List.replicate 30 6 ++ [9] ++ List.replicate 26 10
def lnL : List Nat := [16, 10, 5, 30, 9, 2, 300, 8, 8, 5, 5, 5, 5, 5, 5, 5, 5, 4, 7, 49, 128, 2, 16] ++ List.replicate 10 7 ++ List.replicate 30 7 ++ [55] ++ List.replicate 7 10 ++ List.replicate 7 30 ++ List.replicate 8 5 ++ [300, 7, 7, 16]
def kd (k : Nat) : Nat := kdL.getD k 99
def ln (k : Nat) : Nat := lnL.getD k 0
/-- what a field holds: 0 a number; c + 1 cell c; 1001 + b cell b + (σ k j) -/
def rtL : List (List Nat) := [[23], [19, 20, 21], [6], [], [], [7], [], [4], [0, 0, 0, 0, 0, 0, 0, 0, 2, 3, 5, 1008, 1008, 0, 18, 22],
  [0, 0, 0, 0, 0, 0, 0, 0, 0, 0, 0, 65, 66, 67, 68, 69, 70, 71, 0, 0, 72, 73, 74, 75, 76, 77, 78, 0, 0, 79, 80, 0, 81, 82, 0, 0, 83, 84, 0, 85, 86, 87, 0, 0, 0, 0, 0, 0, 0, 0, 0, 88, 89, 90, 0]]
def rt (k j : Nat) : Nat := if kd k = 3 ∧ 4 ≤ j then 4 * k - 22 + j else (rtL.getD (kd k) []).getD j 0
def sv (X : XT) (σ : ST) (k j : Nat) : Value := if rt k j = 0 then .int (σ k j) else if 1000 < rt k j then .ref (xa X (rt k j - 1001 + (σ k j).toNatClampNeg)) else .ref (xa X (rt k j - 1))
def en (X : XT) (σ : ST) (k : Nat) : va_E :=
  if kd k < 10 then .inr (kd k, (List.range (ln k)).map (sv X σ k))
  else if kd k = 10 then .inl (xc X 0, ln k, .inl (σ k))
  else if kd k = 11 then .inl (xc X 1, ln k, .inl (σ k))
  else if kd k = 12 then .inl (xc X 2, ln k, .inr (.inr (.inr (.inr (fun j => some (xa X (23 + j)))))))
  else .inl (xc X 3, ln k, .inr (.inr (.inr (.inr (fun j => some (xa X (33 + (σ k j).toNatClampNeg)))))))
def wl (X : XT) (σ : ST) : va_W := (List.range 90).map (fun k => (xa X k, en X σ k))
def okc (ci k : Nat) : Prop := k < 90 ∧ kd k = ci
theorem wl_get (X : XT) (σ : ST) {k : Nat} (h : k < 90) : (wl X σ)[k]? = some (xa X k, en X σ k) := by
  simp [wl, h]
theorem wl_none (X : XT) (σ : ST) {k : Nat} (h : 90 ≤ k) : (wl X σ)[k]? = none := by
  rw [List.getElem?_eq_none_iff]
  simpa [wl] using h
theorem en_congr (X : XT) {σ τ : ST} {k : Nat} (h : τ k = σ k) : en X τ k = en X σ k := by
  have hs : sv X τ k = sv X σ k := by
    funext j
    simp only [sv, h]
  simp only [en, hs, h]
theorem wl_set (X : XT) {σ τ : ST} {k : Nat} {e : va_E} (he : e = en X τ k) (ho : ∀ j, j ≠ k → τ j = σ j) : (wl X σ).set k (xa X k, e) = wl X τ := by
  apply List.ext_getElem?
  intro i
  rw [List.getElem?_set]
  by_cases hi : k = i
  · subst hi
    by_cases hk : k < 90
    · rw [if_pos rfl, if_pos (by simp [wl, hk]), wl_get X τ hk, he]
    · rw [if_pos rfl, if_neg (by simpa [wl] using hk)]
      exact (wl_none X τ (by omega)).symm
  · rw [if_neg hi]
    by_cases hk : i < 90
    · rw [wl_get X σ hk, wl_get X τ hk, en_congr X (ho i (fun z => hi z.symm))]
    · rw [wl_none X σ (by omega), wl_none X τ (by omega)]
theorem up_row {σ : ST} {k j : Nat} {v : Int32} {i : Nat} (h : i ≠ k) : up σ k j v i = σ i := by
  funext b
  simp [up, h]
theorem up_self (σ : ST) (k j : Nat) (v : Int32) : up σ k j v k j = v := by simp [up]
theorem up_ne (σ : ST) {k j a b : Nat} (v : Int32) (h : ¬ (a = k ∧ b = j)) : up σ k j v a b = σ a b := if_neg h
theorem up_upd (σ : ST) (k j : Nat) (v : Int32) : up σ k j v k = upd (σ k) j v := by
  funext b
  simp [up, upd]
theorem wl_D {X : XT} {A : Nat → Prop} (σ : ST) (ha : ∀ i j, i < 90 → j < 90 → xa X i = xa X j → i = j) (hA : ∀ k, k < 90 → A (xa X k)) : va_D A (wl X σ) := by
  have hg : ∀ (i : Nat) (p : Nat × va_E), (wl X σ)[i]? = some p → i < 90 ∧ p.1 = xa X i := by
    intro i p hp
    by_cases hi : i < 90
    · rw [wl_get X σ hi] at hp
      cases hp
      exact ⟨hi, rfl⟩
    · rw [wl_none X σ (by omega)] at hp
      cases hp
  refine ⟨fun i j p q hp hq e => ?_, fun k q hq => ?_⟩
  · obtain ⟨h1, h2⟩ := hg i p hp
    obtain ⟨h3, h4⟩ := hg j q hq
    exact ha i j h1 h3 (by rw [← h2, ← h4]; exact e)
  · obtain ⟨h1, h2⟩ := hg k q hq
    rw [h2]
    exact hA k h1
theorem kd_ln : ∀ k, k < 90 → kd k < 10 → (vwCl[kd k]?).map (fun q => q.2.2) = some (ln k) := by decide +kernel
theorem en_obj (X : XT) (σ : ST) {ci k : Nat} {C : String} {T : u_T} {N : Nat} (hk : okc ci k) (hc : vwCl[ci]? = some (C, T, N)) : en X σ k = .inr (ci, (List.range N).map (sv X σ k)) ∧ ci < 10 := by
  obtain ⟨h1, h2⟩ := hk
  have h10 : ci < 10 := (List.getElem?_eq_some_iff.mp hc).1
  have h3 := kd_ln k h1 (by rw [h2]; exact h10)
  rw [h2, hc] at h3
  have h4 : N = ln k := Option.some.inj h3
  refine ⟨?_, h10⟩
  unfold en
  rw [if_pos (by rw [h2]; exact h10), h2, h4]
theorem en_int (X : XT) (σ : ST) {k : Nat} (hk : okc 10 k) : en X σ k = .inl (xc X 0, ln k, .inl (σ k)) := by
  unfold en
  rw [hk.2]
  rfl
theorem en_byte (X : XT) (σ : ST) {k : Nat} (hk : okc 11 k) : en X σ k = .inl (xc X 1, ln k, .inl (σ k)) := by
  unfold en
  rw [hk.2]
  rfl
theorem en_sts (X : XT) (σ : ST) {k : Nat} (hk : okc 12 k) : en X σ k = .inl (xc X 2, ln k, .inr (.inr (.inr (.inr (fun j => some (xa X (23 + j))))))) := by
  unfold en
  rw [hk.2]
  rfl
theorem en_tks (X : XT) (σ : ST) {k : Nat} (hk : okc 13 k) : en X σ k = .inl (xc X 3, ln k, .inr (.inr (.inr (.inr (fun j => some (xa X (33 + (σ k j).toNatClampNeg))))))) := by
  unfold en
  rw [hk.2]
  rfl
/-! the tables, the texts and statics that nobody writes -/
abbrev tyL (X : XT) : List (ClassId × FieldType) := [(xc X 0, .int), (xc X 1, .byte), (xc X 2, .object RX4), (xc X 3, .object RX6)]
def txL : List (Nat × String) := [(39, "hold"), (48, "rain"), (53, "rent"), (58, "zone"), (62, "any"), (64, "place"), (100, "part")]
def lenS : List Nat := [4, 4, 4, 4, 3, 5, 4]
def bytS : List (List Int32) := [[104, 111, 108, 100], [114, 97, 105, 110], [114, 101, 110, 116], [122, 111, 110, 101], [97, 110, 121], [112, 108, 97, 99, 101], [112, 97, 114, 116]]
def Kb (X : XT) (U : State) : Prop := va_K (xD X) vwCl (tyL X) U ∧ va_Nw (.methodLinkNest RX2 101 yX8_within RX8) U ∧ va_Nw (.methodLinkNest RX1 46 yX8_within RX8) U ∧ ∀ i, i < 7 → vk_R RX2 (txL.getD i (0, "")).1 (txL.getD i (0, "")).2 (xk X i) U
def Sb (X : XT) (A : Nat → Prop) (U : State) (H : Heap) : Prop := vk_S 7 lenS bytS (xk X) (xv X) A U H ∧ va_Z "java/lang/String" "COMPACT_STRINGS" "Z" (.int 1) A U H ∧ va_Zq "jdk/internal/util/Preconditions" "SIOOBE_FORMATTER" "Ljava/util/function/BiFunction;" A U H
theorem Kb.warm {X : XT} {s U : State} (hW : s.WarmedH U.vm) (h : Kb X s) : Kb X U := ⟨va_K.moved hW.alike h.1, va_Nw.warmM hW h.2.1, va_Nw.warmM hW h.2.2.1, fun i hi => vk_R.warm hW (h.2.2.2 i hi)⟩
theorem Kb.same {X : XT} {s U : State} (hv : U.vm = s.vm) (h : Kb X s) : Kb X U := ⟨va_K.moved (hv ▸ Vm.Alike.refl s.vm) h.1, va_Nw.same rfl hv.symm h.2.1, va_Nw.same rfl hv.symm h.2.2.1, fun i hi => vk_R.same hv (h.2.2.2 i hi)⟩
theorem Sb.moved {X : XT} {A : Nat → Prop} {u U : State} {H : Heap} (hvm : u.vm.Alike U.vm) (h : Sb X A u H) : Sb X A U H := ⟨h.1.moved hvm, h.2.1.moved hvm, h.2.2.moved hvm⟩
theorem Sb.kept {X : XT} {A : Nat → Prop} {U : State} {H H1 : Heap} (h : Sb X A U H) (hq : ∀ a : Nat, a < H.size → ¬ A a → H1[a]? = H[a]?) : Sb X A U H1 := ⟨h.1.kept hq, h.2.1.kept hq, h.2.2.kept hq⟩
theorem Sb.narrow {X : XT} {A B : Nat → Prop} {U : State} {H : Heap} (h : Sb X A U H) (hAB : ∀ q, B q → A q) : Sb X B U H := ⟨h.1.narrow hAB, h.2.1.narrow hAB, h.2.2.narrow hAB⟩
/-- a method's start: the state σ, all cells apart -/
def Pw (X : XT) (σ : ST) (U : State) : Prop := va_P (xD X) vwCl (wl X σ) U.heap ∧ Kb X U ∧ Sb X (xA X) U U.heap ∧ ∀ i j, i < 90 → j < 90 → xa X i = xa X j → i = j
abbrev Bw (X : XT) (σ : ST) (t : State) : Prop := va_P (xD X) vwCl (wl X σ) t.heap
def rv (X : XT) (r : Option Nat) : Value := match r with
  | none => .null
  | some k => .ref (xa X k)
def va_Qo (X : XT) (post : Option Nat → ST → Prop) : Array Value → State → Outcome → State → Prop := fun _ st oc t => (∃ (r : Option Nat) (u : ST), oc = .returned (some (rv X r)) ∧ post r u ∧ Bw X u t) ∧ va_F (xA X) st t
abbrev MetI (l : Launch) (y : MethodName) (ws : List Cond) (rm : Room) (X : XT) (σ : ST) (As : List Value) (Q : Int32 → ST → Prop) : Prop := Met l y ws rm (va_Pc As (Pw X σ)) (va_Qi Q (Bw X) (xA X)) 0 0 (xA X)
abbrev MetL (l : Launch) (y : MethodName) (ws : List Cond) (rm : Room) (X : XT) (σ : ST) (As : List Value) (Q : Int64 → ST → Prop) : Prop := Met l y ws rm (va_Pc As (Pw X σ)) (va_Ql Q (Bw X) (xA X)) 0 0 (xA X)
abbrev MetV (l : Launch) (y : MethodName) (ws : List Cond) (rm : Room) (X : XT) (σ : ST) (As : List Value) (Q : ST → Prop) : Prop := Met l y ws rm (va_Pc As (Pw X σ)) (va_Qv Q (Bw X) (xA X)) 0 0 (xA X)
abbrev MetO (l : Launch) (y : MethodName) (ws : List Cond) (rm : Room) (X : XT) (σ : ST) (As : List Value) (Q : Option Nat → ST → Prop) : Prop := Met l y ws rm (va_Pc As (Pw X σ)) (va_Qo X Q) 0 0 (xA X)
/-! the locals, by their places -/
def Lv (ls : Array Slot) (nL : Nat) (lv : List (Option Value)) : Prop := ls.size = nL ∧ lv_wf ls ∧ ∀ (i : Nat) (v : Value), lv[i]? = some (some v) → ls[i]? = some (.val v)
def lvl (lv : List (Option Value)) : List (Nat × Value) := (List.range lv.length).filterMap (fun i => match lv[i]? with | some (some v) => some (i, v) | _ => none)
theorem lvl_mem {lv : List (Option Value)} {q : Nat × Value} : q ∈ lvl lv ↔ lv[q.1]? = some (some q.2) := by
  unfold lvl
  rw [List.mem_filterMap]
  constructor
  · rintro ⟨i, -, h⟩
    split at h
    · rename_i v hv
      cases h
      exact hv
    · cases h
  · intro h
    refine ⟨q.1, ?_, ?_⟩
    · rw [List.mem_range]
      exact (List.getElem?_eq_some_iff.mp h).1
    · rw [h]
theorem Lv.has {ls : Array Slot} {nL : Nat} {lv : List (Option Value)} (h : Lv ls nL lv) : lv_has ls nL (lvl lv) := ⟨h.1, h.2.1, fun q hq => h.2.2 q.1 q.2 (lvl_mem.mp hq)⟩
/-- no long ends at i -/
def pv (lv : List (Option Value)) (i : Nat) : Bool := match i with
  | 0 => true
  | j + 1 => match lv[j]? with
    | some (some w) => w.category == 1
    | _ => true
theorem pv_ok {lv : List (Option Value)} {i j : Nat} {w : Value} (h : pv lv i = true) (hj : lv[j]? = some (some w)) : ¬ (j + 1 = i ∧ w.category = 2) := by
  rintro ⟨rfl, h2⟩
  simp [pv, hj, h2] at h
theorem Lv.store1 {ls : Array Slot} {nL : Nat} {lv : List (Option Value)} {i : Nat} {v : Value} (h : Lv ls nL lv) (hi : i < nL) (hc : v.category = 1) (hp : pv lv i = true) : ∃ ls', storeLocals ls i v = some ls' ∧ Lv ls' nL (lv.set i (some v)) := by
  obtain ⟨ls', e, h1, h2, h3⟩ := lv_store1 h.has hi hc
  refine ⟨ls', e, h1, h2, fun j w hw => ?_⟩
  by_cases hj : i = j
  · subst hj
    rw [List.getElem?_set] at hw
    split at hw
    · split at hw
      · cases hw
        exact h3 (i, v) List.mem_cons_self
      · cases hw
    · rename_i hn; exact absurd rfl hn
  · rw [List.getElem?_set_ne hj] at hw
    refine h3 (j, w) (List.mem_cons_of_mem _ (List.mem_filter.mpr ⟨lvl_mem.mpr hw, ?_⟩))
    have := pv_ok hp hw
    simp only [Bool.and_eq_true, Bool.not_eq_true', beq_eq_false_iff_ne, Bool.and_eq_false_iff]
    refine ⟨fun z => hj z.symm, ?_⟩
    by_cases h1 : j + 1 = i
    · right
      intro z
      exact this ⟨h1, z⟩
    · left
      exact h1
theorem Lv.store2 {ls : Array Slot} {nL : Nat} {lv : List (Option Value)} {i : Nat} {v : Value} (h : Lv ls nL lv) (hi : i + 1 < nL) (hc : v.category = 2) (hp : pv lv i = true) : ∃ ls', storeLocals ls i v = some ls' ∧ Lv ls' nL ((lv.set i (some v)).set (i + 1) none) := by
  obtain ⟨ls', e, h1, h2, h3⟩ := lv_store2 h.has hi hc
  refine ⟨ls', e, h1, h2, fun j w hw => ?_⟩
  by_cases hj1 : i + 1 = j
  · subst hj1
    rw [List.getElem?_set] at hw
    split at hw
    · split at hw <;> cases hw
    · rename_i hn; exact absurd rfl hn
  rw [List.getElem?_set_ne hj1] at hw
  by_cases hj : i = j
  · subst hj
    rw [List.getElem?_set] at hw
    split at hw
    · split at hw
      · cases hw
        exact h3 (i, v) List.mem_cons_self
      · cases hw
    · rename_i hn; exact absurd rfl hn
  · rw [List.getElem?_set_ne hj] at hw
    refine h3 (j, w) (List.mem_cons_of_mem _ (List.mem_filter.mpr ⟨lvl_mem.mpr hw, ?_⟩))
    have := pv_ok hp hw
    simp only [Bool.and_eq_true, Bool.not_eq_true', beq_eq_false_iff_ne, Bool.and_eq_false_iff]
    refine ⟨fun z => hj z.symm, fun z => hj1 z.symm, ?_⟩
    by_cases h1 : j + 1 = i
    · right
      intro z
      exact this ⟨h1, z⟩
    · left
      exact h1
def lvE : List Value → List (Option Value)
  | [] => []
  | v :: vs => if v.category = 2 then some v :: none :: lvE vs else some v :: lvE vs
theorem lvE_args : ∀ (vs : List Value) (b i : Nat) (v : Value), (lvE vs)[i]? = some (some v) → (b + i, v) ∈ lv_args b vs := by
  intro vs
  induction vs with
  | nil => intro b i v h; simp [lvE] at h
  | cons w vs ih =>
    intro b i v h
    unfold lvE at h
    unfold lv_args
    by_cases hc : w.category = 2
    · rw [if_pos hc] at h ⊢
      match i, h with
      | 0, h => simp at h; subst h; simp
      | 1, h => simp at h
      | i + 2, h =>
        have h' : (lvE vs)[i]? = some (some v) := by simpa using h
        have := ih (b + 2) i v h'
        rw [show b + (i + 2) = b + 2 + i by omega]
        exact List.mem_cons_of_mem _ this
    · rw [if_neg hc] at h ⊢
      match i, h with
      | 0, h => simp at h; subst h; simp
      | i + 1, h =>
        have h' : (lvE vs)[i]? = some (some v) := by simpa using h
        have := ih (b + 1) i v h'
        rw [show b + (i + 1) = b + 1 + i by omega]
        exact List.mem_cons_of_mem _ this
theorem Lv.entry (vs : List Value) {n k : Nat} (h : (lg_sl vs).length ≤ n) : Lv ((lg_sl vs ++ List.replicate (n - (lg_sl vs).length) Slot.unset).toArray) n (lvE vs ++ List.replicate k none) := by
  obtain ⟨h1, h2, h3⟩ := lv_entry vs h
  refine ⟨h1, h2, fun i v hv => ?_⟩
  rw [List.getElem?_append] at hv
  split at hv
  · have := h3 _ (lvE_args vs 0 i v hv)
    simpa using this
  · rw [List.getElem?_replicate] at hv
    split at hv <;> cases hv
theorem okc_st : ∀ i, i < 10 → kd (23 + i) = 4 := by decide +kernel
theorem okc_tk : ∀ i, i < 30 → kd (33 + i) = 6 := by decide +kernel
theorem okS {i : Nat} (h : i < 10) : okc 4 (23 + i) := ⟨by omega, okc_st i h⟩
theorem okT {i : Nat} (h : i < 30) : okc 6 (33 + i) := ⟨by omega, okc_tk i h⟩
