/-! what the two constructors leave -/
def esC (cA : Nat → ClassId) (N0 : Nat) (a : Int32) : List va_E := [.inr (8, [.int (cst a), .int 0, .int 0, .int 10, .int 60, .int 0, .int 0, .int 0, .ref (N0 + 1), .ref (N0 + 2), .ref (N0 + 34), .ref (N0 + 37), .ref (N0 + 42), .int 0, .ref (N0 + 47), .ref (N0 + 51)]), .inl (cA 2, 10, .inr (.inr (.inr (.inr (tkF (N0 + 53) 10))))), .inr (7, [.ref (N0 + 3), .int 0, .int 0, .int 0, .int 0]), .inl (cA 3, 30, .inr (.inr (.inr (.inr (tkF (N0 + 4) 30))))), .inr (6, [.int 0, .int 0, .int 0, .int 0, .int 0, .int 0, .int 0]), .inr (6, [.int 0, .int 0, .int 0, .int 0, .int 0, .int 0, .int 0]), .inr (6, [.int 0, .int 0, .int 0, .int 0, .int 0, .int 0, .int 0]), .inr (6, [.int 0, .int 0, .int 0, .int 0, .int 0, .int 0, .int 0]), .inr (6, [.int 0, .int 0, .int 0, .int 0, .int 0, .int 0, .int 0]), .inr (6, [.int 0, .int 0, .int 0, .int 0, .int 0, .int 0, .int 0]), .inr (6, [.int 0, .int 0, .int 0, .int 0, .int 0, .int 0, .int 0]), .inr (6, [.int 0, .int 0, .int 0, .int 0, .int 0, .int 0, .int 0]), .inr (6, [.int 0, .int 0, .int 0, .int 0, .int 0, .int 0, .int 0]), .inr (6, [.int 0, .int 0, .int 0, .int 0, .int 0, .int 0, .int 0]), .inr (6, [.int 0, .int 0, .int 0, .int 0, .int 0, .int 0, .int 0]), .inr (6, [.int 0, .int 0, .int 0, .int 0, .int 0, .int 0, .int 0]), .inr (6, [.int 0, .int 0, .int 0, .int 0, .int 0, .int 0, .int 0]), .inr (6, [.int 0, .int 0, .int 0, .int 0, .int 0, .int 0, .int 0]), .inr (6, [.int 0, .int 0, .int 0, .int 0, .int 0, .int 0, .int 0]), .inr (6, [.int 0, .int 0, .int 0, .int 0, .int 0, .int 0, .int 0]), .inr (6, [.int 0, .int 0, .int 0, .int 0, .int 0, .int 0, .int 0]), .inr (6, [.int 0, .int 0, .int 0, .int 0, .int 0, .int 0, .int 0]), .inr (6, [.int 0, .int 0, .int 0, .int 0, .int 0, .int 0, .int 0]), .inr (6, [.int 0, .int 0, .int 0, .int 0, .int 0, .int 0, .int 0]), .inr (6, [.int 0, .int 0, .int 0, .int 0, .int 0, .int 0, .int 0]), .inr (6, [.int 0, .int 0, .int 0, .int 0, .int 0, .int 0, .int 0]), .inr (6, [.int 0, .int 0, .int 0, .int 0, .int 0, .int 0, .int 0]), .inr (6, [.int 0, .int 0, .int 0, .int 0, .int 0, .int 0, .int 0]), .inr (6, [.int 0, .int 0, .int 0, .int 0, .int 0, .int 0, .int 0]), .inr (6, [.int 0, .int 0, .int 0, .int 0, .int 0, .int 0, .int 0]), .inr (6, [.int 0, .int 0, .int 0, .int 0, .int 0, .int 0, .int 0]), .inr (6, [.int 0, .int 0, .int 0, .int 0, .int 0, .int 0, .int 0]), .inr (6, [.int 0, .int 0, .int 0, .int 0, .int 0, .int 0, .int 0]), .inr (6, [.int 0, .int 0, .int 0, .int 0, .int 0, .int 0, .int 0]), .inr (2, [.ref (N0 + 35), .int 0, .int 0, .int 0, .int 0, .int 0, .int 0, .int 0, .int 0]), .inr (5, [.ref (N0 + 36), .int 0]), .inl (cA 1, 300, .inl (fun _ => 0)), .inr (3, [.int 0, .int 0, .int 0, .int 0, .ref (N0 + 38), .ref (N0 + 39), .ref (N0 + 40), .ref (N0 + 41)]), .inl (cA 0, 5, .inl (fun _ => 0)), .inl (cA 0, 5, .inl (fun _ => 0)), .inl (cA 0, 5, .inl (fun _ => 0)), .inl (cA 0, 5, .inl (fun _ => 0)), .inr (3, [.int 0, .int 0, .int 0, .int 0, .ref (N0 + 43), .ref (N0 + 44), .ref (N0 + 45), .ref (N0 + 46)]), .inl (cA 0, 5, .inl (fun _ => 0)), .inl (cA 0, 5, .inl (fun _ => 0)), .inl (cA 0, 5, .inl (fun _ => 0)), .inl (cA 0, 5, .inl (fun _ => 0)), .inr (1, [.ref (N0 + 48), .ref (N0 + 49), .ref (N0 + 50), .int 0]), .inl (cA 0, 7, .inl (fun _ => 0)), .inl (cA 0, 49, .inl (fun _ => 0)), .inl (cA 0, 128, .inl (fun _ => 0)), .inr (0, [.ref (N0 + 52), .int 0]), .inl (cA 0, 16, .inl (fun _ => 0)), .inr (4, [.int 0, .int 0, .int 0, .int 0, .int 0, .int 0, .int 0]), .inr (4, [.int 0, .int 0, .int 0, .int 0, .int 0, .int 0, .int 0]), .inr (4, [.int 0, .int 0, .int 0, .int 0, .int 0, .int 0, .int 0]), .inr (4, [.int 0, .int 0, .int 0, .int 0, .int 0, .int 0, .int 0]), .inr (4, [.int 0, .int 0, .int 0, .int 0, .int 0, .int 0, .int 0]), .inr (4, [.int 0, .int 0, .int 0, .int 0, .int 0, .int 0, .int 0]), .inr (4, [.int 0, .int 0, .int 0, .int 0, .int 0, .int 0, .int 0]), .inr (4, [.int 0, .int 0, .int 0, .int 0, .int 0, .int 0, .int 0]), .inr (4, [.int 0, .int 0, .int 0, .int 0, .int 0, .int 0, .int 0]), .inr (4, [.int 0, .int 0, .int 0, .int 0, .int 0, .int 0, .int 0])]
def esM (cA : Nat → ClassId) (N0 : Nat) (a : Int32) : List va_E := [.inr (9, [.int 0, .int (cst a), .int 0, .int 0, .int 10, .int 60, .int 0, .int 0, .int 0, .int 0, .int 0, .ref (N0 + 64), .ref (N0 + 65), .ref (N0 + 66), .ref (N0 + 67), .ref (N0 + 68), .ref (N0 + 69), .ref (N0 + 70), .int 0, .int 0, .ref (N0 + 71), .ref (N0 + 72), .ref (N0 + 73), .ref (N0 + 74), .ref (N0 + 75), .ref (N0 + 76), .ref (N0 + 77), .int 0, .int 0, .ref (N0 + 78), .ref (N0 + 79), .int 0, .ref (N0 + 80), .ref (N0 + 81), .int 0, .int 0, .ref (N0 + 82), .ref (N0 + 83), .int 0, .ref (N0 + 84), .ref (N0 + 85), .ref (N0 + 86), .int 0, .int 0, .int 0, .int 0, .int 0, .int 0, .int 0, .int 0, .int 0, .ref (N0 + 87), .ref (N0 + 88), .ref (N0 + 89), .int 0]), .inl (cA 0, 10, .inl (fun _ => 0)), .inl (cA 0, 10, .inl (fun _ => 0)), .inl (cA 0, 10, .inl (fun _ => 0)), .inl (cA 0, 10, .inl (fun _ => 0)), .inl (cA 0, 10, .inl (fun _ => 0)), .inl (cA 0, 10, .inl (fun _ => 0)), .inl (cA 0, 10, .inl (fun _ => 0)), .inl (cA 0, 30, .inl (fun _ => 0)), .inl (cA 0, 30, .inl (fun _ => 0)), .inl (cA 0, 30, .inl (fun _ => 0)), .inl (cA 0, 30, .inl (fun _ => 0)), .inl (cA 0, 30, .inl (fun _ => 0)), .inl (cA 0, 30, .inl (fun _ => 0)), .inl (cA 0, 30, .inl (fun _ => 0)), .inl (cA 0, 5, .inl (fun _ => 0)), .inl (cA 0, 5, .inl (fun _ => 0)), .inl (cA 0, 5, .inl (fun _ => 0)), .inl (cA 0, 5, .inl (fun _ => 0)), .inl (cA 0, 5, .inl (fun _ => 0)), .inl (cA 0, 5, .inl (fun _ => 0)), .inl (cA 0, 5, .inl (fun _ => 0)), .inl (cA 0, 5, .inl (fun _ => 0)), .inl (cA 0, 300, .inl (fun _ => 0)), .inl (cA 0, 7, .inl (fun _ => 0)), .inl (cA 0, 7, .inl (fun _ => 0)), .inl (cA 0, 16, .inl (fun _ => 0))]
def posL : List Nat := [0, 1, 2, 3, 34, 35, 36, 37, 42, 38, 39, 40, 41, 43, 44, 45, 46, 47, 48, 49, 50, 51, 52, 53, 54, 55, 56, 57, 58, 59, 60, 61, 62, 4, 5, 6, 7, 8, 9, 10, 11, 12, 13, 14, 15, 16, 17, 18, 19, 20, 21, 22, 23, 24, 25, 26, 27, 28, 29, 30, 31, 32, 33, 63, 64, 65, 66, 67, 68, 69, 70, 71, 72, 73, 74, 75, 76, 77, 78, 79, 80, 81, 82, 83, 84, 85, 86, 87, 88, 89]
def posn (k : Nat) : Nat := posL.getD k k
/-- the first state -/
def sg0 (a : Int32) : ST := fun k j => if k = 0 then (if j = 0 then a else if j = 3 then 10 else if j = 4 then 60 else if j = 12 then 1 else 0) else if k = 3 then nI j else if k = 63 then (if j = 1 then a else if j = 4 then 10 else if j = 5 then 60 else 0) else 0
def X0 (D : va_G) (cA adK adV : Nat → ClassId) (N0 : Nat) : XT := (D.1, D.2, fun k => N0 + posn k, cA, adK, adV)
theorem posn_inj : ∀ i, i < 90 → ∀ j, j < 90 → posn i = posn j → i = j := by decide +kernel
theorem posn_lt : ∀ i, i < 90 → posn i < 90 := by decide +kernel
theorem arrV_congr {c : ClassId} {N : Nat} {f g : Nat → Value} (h : ∀ j, j < N → f j = g j) : arrV c N f = arrV c N g := by
  unfold arrV
  congr 1
  congr 1
  funext j
  exact h j.val j.isLt
theorem pos_st : ∀ j, j < 10 → posn (23 + j) = 53 + j := by decide +kernel
theorem pos_tk : ∀ j, j < 30 → posn (33 + j) = 4 + j := by decide +kernel
theorem sv0_11 (D : va_G) (cA adK adV : Nat → ClassId) (N0 : Nat) (a : Int32) : sv (X0 D cA adK adV N0) (sg0 a) 0 11 = .ref (N0 + 37) := by
  have h1 : sg0 a 0 11 = 0 := rfl
  have h2 : rt 0 11 = 1008 := by decide
  have h3 : 1008 - 1001 + ((0 : Int32)).toNatClampNeg = 7 := by decide
  have h4 : posn 7 = 37 := by decide
  unfold sv
  rw [h2, if_neg (by decide), if_pos (by decide), h1, h3]
  show Value.ref (N0 + posn 7) = _
  rw [h4]
theorem sv0_12 (D : va_G) (cA adK adV : Nat → ClassId) (N0 : Nat) (a : Int32) : sv (X0 D cA adK adV N0) (sg0 a) 0 12 = .ref (N0 + 42) := by
  have h1 : sg0 a 0 12 = 1 := rfl
  have h2 : rt 0 12 = 1008 := by decide
  have h3 : 1008 - 1001 + ((1 : Int32)).toNatClampNeg = 8 := by decide
  have h4 : posn 8 = 42 := by decide
  unfold sv
  rw [h2, if_neg (by decide), if_pos (by decide), h1, h3]
  show Value.ref (N0 + posn 8) = _
  rw [h4]
theorem sv0_0 (D : va_G) (cA adK adV : Nat → ClassId) (N0 : Nat) (a : Int32) : sv (X0 D cA adK adV N0) (sg0 a) 0 0 = .int a := (svI (by decide)).trans (congrArg Value.int (show sg0 a 0 0 = a from rfl))
theorem sv0_1 (D : va_G) (cA adK adV : Nat → ClassId) (N0 : Nat) (a : Int32) : sv (X0 D cA adK adV N0) (sg0 a) 0 1 = .int 0 := (svI (by decide)).trans (congrArg Value.int (show sg0 a 0 1 = 0 from rfl))
theorem sv0_2 (D : va_G) (cA adK adV : Nat → ClassId) (N0 : Nat) (a : Int32) : sv (X0 D cA adK adV N0) (sg0 a) 0 2 = .int 0 := (svI (by decide)).trans (congrArg Value.int (show sg0 a 0 2 = 0 from rfl))
theorem sv0_3 (D : va_G) (cA adK adV : Nat → ClassId) (N0 : Nat) (a : Int32) : sv (X0 D cA adK adV N0) (sg0 a) 0 3 = .int 10 := (svI (by decide)).trans (congrArg Value.int (show sg0 a 0 3 = 10 from rfl))
theorem sv0_4 (D : va_G) (cA adK adV : Nat → ClassId) (N0 : Nat) (a : Int32) : sv (X0 D cA adK adV N0) (sg0 a) 0 4 = .int 60 := (svI (by decide)).trans (congrArg Value.int (show sg0 a 0 4 = 60 from rfl))
theorem sv0_5 (D : va_G) (cA adK adV : Nat → ClassId) (N0 : Nat) (a : Int32) : sv (X0 D cA adK adV N0) (sg0 a) 0 5 = .int 0 := (svI (by decide)).trans (congrArg Value.int (show sg0 a 0 5 = 0 from rfl))
theorem sv0_6 (D : va_G) (cA adK adV : Nat → ClassId) (N0 : Nat) (a : Int32) : sv (X0 D cA adK adV N0) (sg0 a) 0 6 = .int 0 := (svI (by decide)).trans (congrArg Value.int (show sg0 a 0 6 = 0 from rfl))
theorem sv0_7 (D : va_G) (cA adK adV : Nat → ClassId) (N0 : Nat) (a : Int32) : sv (X0 D cA adK adV N0) (sg0 a) 0 7 = .int 0 := (svI (by decide)).trans (congrArg Value.int (show sg0 a 0 7 = 0 from rfl))
theorem sv0_8 (D : va_G) (cA adK adV : Nat → ClassId) (N0 : Nat) (a : Int32) : sv (X0 D cA adK adV N0) (sg0 a) 0 8 = .ref (N0 + 1) := by
  have h2 : rt 0 8 = 2 := by decide
  have h4 : posn 1 = 1 := by decide
  unfold sv
  rw [h2, if_neg (by decide), if_neg (by decide)]
  show Value.ref (N0 + posn 1) = _
  rw [h4]
theorem sv0_9 (D : va_G) (cA adK adV : Nat → ClassId) (N0 : Nat) (a : Int32) : sv (X0 D cA adK adV N0) (sg0 a) 0 9 = .ref (N0 + 2) := by
  have h2 : rt 0 9 = 3 := by decide
  have h4 : posn 2 = 2 := by decide
  unfold sv
  rw [h2, if_neg (by decide), if_neg (by decide)]
  show Value.ref (N0 + posn 2) = _
  rw [h4]
theorem sv0_10 (D : va_G) (cA adK adV : Nat → ClassId) (N0 : Nat) (a : Int32) : sv (X0 D cA adK adV N0) (sg0 a) 0 10 = .ref (N0 + 34) := by
  have h2 : rt 0 10 = 5 := by decide
  have h4 : posn 4 = 34 := by decide
  unfold sv
  rw [h2, if_neg (by decide), if_neg (by decide)]
  show Value.ref (N0 + posn 4) = _
  rw [h4]
theorem sv0_13 (D : va_G) (cA adK adV : Nat → ClassId) (N0 : Nat) (a : Int32) : sv (X0 D cA adK adV N0) (sg0 a) 0 13 = .int 0 := (svI (by decide)).trans (congrArg Value.int (show sg0 a 0 13 = 0 from rfl))
theorem sv0_14 (D : va_G) (cA adK adV : Nat → ClassId) (N0 : Nat) (a : Int32) : sv (X0 D cA adK adV N0) (sg0 a) 0 14 = .ref (N0 + 47) := by
  have h2 : rt 0 14 = 18 := by decide
  have h4 : posn 17 = 47 := by decide
  unfold sv
  rw [h2, if_neg (by decide), if_neg (by decide)]
  show Value.ref (N0 + posn 17) = _
  rw [h4]
theorem sv0_15 (D : va_G) (cA adK adV : Nat → ClassId) (N0 : Nat) (a : Int32) : sv (X0 D cA adK adV N0) (sg0 a) 0 15 = .ref (N0 + 51) := by
  have h2 : rt 0 15 = 22 := by decide
  have h4 : posn 21 = 51 := by decide
  unfold sv
  rw [h2, if_neg (by decide), if_neg (by decide)]
  show Value.ref (N0 + posn 21) = _
  rw [h4]
def fs8 (N0 : Nat) (a : Int32) : List Value := [.int (a), .int 0, .int 0, .int 10, .int 60, .int 0, .int 0, .int 0, .ref (N0 + 1), .ref (N0 + 2), .ref (N0 + 34), .ref (N0 + 37), .ref (N0 + 42), .int 0, .ref (N0 + 47), .ref (N0 + 51)]
theorem sv0 (D : va_G) (cA adK adV : Nat → ClassId) (N0 : Nat) (a : Int32) : ∀ j ∈ List.range 16, sv (X0 D cA adK adV N0) (sg0 a) 0 j = (fs8 N0 a).getD j .null := by
  show ∀ j ∈ [0, 1, 2, 3, 4, 5, 6, 7, 8, 9, 10, 11, 12, 13, 14, 15], _
  exact List.forall_mem_cons.mpr ⟨sv0_0 D cA adK adV N0 a, List.forall_mem_cons.mpr ⟨sv0_1 D cA adK adV N0 a, List.forall_mem_cons.mpr ⟨sv0_2 D cA adK adV N0 a, List.forall_mem_cons.mpr ⟨sv0_3 D cA adK adV N0 a, List.forall_mem_cons.mpr ⟨sv0_4 D cA adK adV N0 a, List.forall_mem_cons.mpr ⟨sv0_5 D cA adK adV N0 a, List.forall_mem_cons.mpr ⟨sv0_6 D cA adK adV N0 a, List.forall_mem_cons.mpr ⟨sv0_7 D cA adK adV N0 a, List.forall_mem_cons.mpr ⟨sv0_8 D cA adK adV N0 a, List.forall_mem_cons.mpr ⟨sv0_9 D cA adK adV N0 a, List.forall_mem_cons.mpr ⟨sv0_10 D cA adK adV N0 a, List.forall_mem_cons.mpr ⟨sv0_11 D cA adK adV N0 a, List.forall_mem_cons.mpr ⟨sv0_12 D cA adK adV N0 a, List.forall_mem_cons.mpr ⟨sv0_13 D cA adK adV N0 a, List.forall_mem_cons.mpr ⟨sv0_14 D cA adK adV N0 a, List.forall_mem_cons.mpr ⟨sv0_15 D cA adK adV N0 a, fun _ h => absurd h List.not_mem_nil⟩⟩⟩⟩⟩⟩⟩⟩⟩⟩⟩⟩⟩⟩⟩⟩
theorem ea_0 (D : va_G) (cA adK adV : Nat → ClassId) (N0 : Nat) (a : Int32) : (esC cA N0 a ++ esM cA N0 a)[posn 0]? = some (en (X0 D cA adK adV N0) (sg0 (cst a)) 0) := by
  rw [(en_obj _ _ ok_0 (C := RX8) (T := TX8) (N := 16) rfl).1, List.map_congr_left (sv0 D cA adK adV N0 (cst a))]
  rfl
set_option maxRecDepth 100000 in
theorem ea_2 (D : va_G) (cA adK adV : Nat → ClassId) (N0 : Nat) (a : Int32) : (esC cA N0 a ++ esM cA N0 a)[posn 2]? = some (en (X0 D cA adK adV N0) (sg0 (cst a)) 2) := rfl
set_option maxRecDepth 100000 in
theorem ea_4 (D : va_G) (cA adK adV : Nat → ClassId) (N0 : Nat) (a : Int32) : (esC cA N0 a ++ esM cA N0 a)[posn 4]? = some (en (X0 D cA adK adV N0) (sg0 (cst a)) 4) := rfl
set_option maxRecDepth 100000 in
theorem ea_5 (D : va_G) (cA adK adV : Nat → ClassId) (N0 : Nat) (a : Int32) : (esC cA N0 a ++ esM cA N0 a)[posn 5]? = some (en (X0 D cA adK adV N0) (sg0 (cst a)) 5) := rfl
set_option maxRecDepth 100000 in
theorem ea_6 (D : va_G) (cA adK adV : Nat → ClassId) (N0 : Nat) (a : Int32) : (esC cA N0 a ++ esM cA N0 a)[posn 6]? = some (en (X0 D cA adK adV N0) (sg0 (cst a)) 6) := rfl
set_option maxRecDepth 100000 in
theorem ea_7 (D : va_G) (cA adK adV : Nat → ClassId) (N0 : Nat) (a : Int32) : (esC cA N0 a ++ esM cA N0 a)[posn 7]? = some (en (X0 D cA adK adV N0) (sg0 (cst a)) 7) := rfl
set_option maxRecDepth 100000 in
theorem ea_8 (D : va_G) (cA adK adV : Nat → ClassId) (N0 : Nat) (a : Int32) : (esC cA N0 a ++ esM cA N0 a)[posn 8]? = some (en (X0 D cA adK adV N0) (sg0 (cst a)) 8) := rfl
set_option maxRecDepth 100000 in
theorem ea_9 (D : va_G) (cA adK adV : Nat → ClassId) (N0 : Nat) (a : Int32) : (esC cA N0 a ++ esM cA N0 a)[posn 9]? = some (en (X0 D cA adK adV N0) (sg0 (cst a)) 9) := rfl
set_option maxRecDepth 100000 in
theorem ea_10 (D : va_G) (cA adK adV : Nat → ClassId) (N0 : Nat) (a : Int32) : (esC cA N0 a ++ esM cA N0 a)[posn 10]? = some (en (X0 D cA adK adV N0) (sg0 (cst a)) 10) := rfl
set_option maxRecDepth 100000 in
theorem ea_11 (D : va_G) (cA adK adV : Nat → ClassId) (N0 : Nat) (a : Int32) : (esC cA N0 a ++ esM cA N0 a)[posn 11]? = some (en (X0 D cA adK adV N0) (sg0 (cst a)) 11) := rfl
set_option maxRecDepth 100000 in
theorem ea_12 (D : va_G) (cA adK adV : Nat → ClassId) (N0 : Nat) (a : Int32) : (esC cA N0 a ++ esM cA N0 a)[posn 12]? = some (en (X0 D cA adK adV N0) (sg0 (cst a)) 12) := rfl
set_option maxRecDepth 100000 in
theorem ea_13 (D : va_G) (cA adK adV : Nat → ClassId) (N0 : Nat) (a : Int32) : (esC cA N0 a ++ esM cA N0 a)[posn 13]? = some (en (X0 D cA adK adV N0) (sg0 (cst a)) 13) := rfl
set_option maxRecDepth 100000 in
theorem ea_14 (D : va_G) (cA adK adV : Nat → ClassId) (N0 : Nat) (a : Int32) : (esC cA N0 a ++ esM cA N0 a)[posn 14]? = some (en (X0 D cA adK adV N0) (sg0 (cst a)) 14) := rfl
set_option maxRecDepth 100000 in
theorem ea_15 (D : va_G) (cA adK adV : Nat → ClassId) (N0 : Nat) (a : Int32) : (esC cA N0 a ++ esM cA N0 a)[posn 15]? = some (en (X0 D cA adK adV N0) (sg0 (cst a)) 15) := rfl
set_option maxRecDepth 100000 in
theorem ea_16 (D : va_G) (cA adK adV : Nat → ClassId) (N0 : Nat) (a : Int32) : (esC cA N0 a ++ esM cA N0 a)[posn 16]? = some (en (X0 D cA adK adV N0) (sg0 (cst a)) 16) := rfl
set_option maxRecDepth 100000 in
theorem ea_17 (D : va_G) (cA adK adV : Nat → ClassId) (N0 : Nat) (a : Int32) : (esC cA N0 a ++ esM cA N0 a)[posn 17]? = some (en (X0 D cA adK adV N0) (sg0 (cst a)) 17) := rfl
set_option maxRecDepth 100000 in
theorem ea_18 (D : va_G) (cA adK adV : Nat → ClassId) (N0 : Nat) (a : Int32) : (esC cA N0 a ++ esM cA N0 a)[posn 18]? = some (en (X0 D cA adK adV N0) (sg0 (cst a)) 18) := rfl
set_option maxRecDepth 100000 in
theorem ea_19 (D : va_G) (cA adK adV : Nat → ClassId) (N0 : Nat) (a : Int32) : (esC cA N0 a ++ esM cA N0 a)[posn 19]? = some (en (X0 D cA adK adV N0) (sg0 (cst a)) 19) := rfl
set_option maxRecDepth 100000 in
theorem ea_20 (D : va_G) (cA adK adV : Nat → ClassId) (N0 : Nat) (a : Int32) : (esC cA N0 a ++ esM cA N0 a)[posn 20]? = some (en (X0 D cA adK adV N0) (sg0 (cst a)) 20) := rfl
set_option maxRecDepth 100000 in
theorem ea_21 (D : va_G) (cA adK adV : Nat → ClassId) (N0 : Nat) (a : Int32) : (esC cA N0 a ++ esM cA N0 a)[posn 21]? = some (en (X0 D cA adK adV N0) (sg0 (cst a)) 21) := rfl
set_option maxRecDepth 100000 in
theorem ea_22 (D : va_G) (cA adK adV : Nat → ClassId) (N0 : Nat) (a : Int32) : (esC cA N0 a ++ esM cA N0 a)[posn 22]? = some (en (X0 D cA adK adV N0) (sg0 (cst a)) 22) := rfl
set_option maxRecDepth 100000 in
theorem ea_23 (D : va_G) (cA adK adV : Nat → ClassId) (N0 : Nat) (a : Int32) : (esC cA N0 a ++ esM cA N0 a)[posn 23]? = some (en (X0 D cA adK adV N0) (sg0 (cst a)) 23) := rfl
set_option maxRecDepth 100000 in
theorem ea_24 (D : va_G) (cA adK adV : Nat → ClassId) (N0 : Nat) (a : Int32) : (esC cA N0 a ++ esM cA N0 a)[posn 24]? = some (en (X0 D cA adK adV N0) (sg0 (cst a)) 24) := rfl
set_option maxRecDepth 100000 in
theorem ea_25 (D : va_G) (cA adK adV : Nat → ClassId) (N0 : Nat) (a : Int32) : (esC cA N0 a ++ esM cA N0 a)[posn 25]? = some (en (X0 D cA adK adV N0) (sg0 (cst a)) 25) := rfl
set_option maxRecDepth 100000 in
theorem ea_26 (D : va_G) (cA adK adV : Nat → ClassId) (N0 : Nat) (a : Int32) : (esC cA N0 a ++ esM cA N0 a)[posn 26]? = some (en (X0 D cA adK adV N0) (sg0 (cst a)) 26) := rfl
set_option maxRecDepth 100000 in
theorem ea_27 (D : va_G) (cA adK adV : Nat → ClassId) (N0 : Nat) (a : Int32) : (esC cA N0 a ++ esM cA N0 a)[posn 27]? = some (en (X0 D cA adK adV N0) (sg0 (cst a)) 27) := rfl
set_option maxRecDepth 100000 in
theorem ea_28 (D : va_G) (cA adK adV : Nat → ClassId) (N0 : Nat) (a : Int32) : (esC cA N0 a ++ esM cA N0 a)[posn 28]? = some (en (X0 D cA adK adV N0) (sg0 (cst a)) 28) := rfl
set_option maxRecDepth 100000 in
theorem ea_29 (D : va_G) (cA adK adV : Nat → ClassId) (N0 : Nat) (a : Int32) : (esC cA N0 a ++ esM cA N0 a)[posn 29]? = some (en (X0 D cA adK adV N0) (sg0 (cst a)) 29) := rfl
set_option maxRecDepth 100000 in
theorem ea_30 (D : va_G) (cA adK adV : Nat → ClassId) (N0 : Nat) (a : Int32) : (esC cA N0 a ++ esM cA N0 a)[posn 30]? = some (en (X0 D cA adK adV N0) (sg0 (cst a)) 30) := rfl
set_option maxRecDepth 100000 in
theorem ea_31 (D : va_G) (cA adK adV : Nat → ClassId) (N0 : Nat) (a : Int32) : (esC cA N0 a ++ esM cA N0 a)[posn 31]? = some (en (X0 D cA adK adV N0) (sg0 (cst a)) 31) := rfl
set_option maxRecDepth 100000 in
theorem ea_32 (D : va_G) (cA adK adV : Nat → ClassId) (N0 : Nat) (a : Int32) : (esC cA N0 a ++ esM cA N0 a)[posn 32]? = some (en (X0 D cA adK adV N0) (sg0 (cst a)) 32) := rfl
set_option maxRecDepth 100000 in
theorem ea_33 (D : va_G) (cA adK adV : Nat → ClassId) (N0 : Nat) (a : Int32) : (esC cA N0 a ++ esM cA N0 a)[posn 33]? = some (en (X0 D cA adK adV N0) (sg0 (cst a)) 33) := rfl
set_option maxRecDepth 100000 in
theorem ea_34 (D : va_G) (cA adK adV : Nat → ClassId) (N0 : Nat) (a : Int32) : (esC cA N0 a ++ esM cA N0 a)[posn 34]? = some (en (X0 D cA adK adV N0) (sg0 (cst a)) 34) := rfl
set_option maxRecDepth 100000 in
theorem ea_35 (D : va_G) (cA adK adV : Nat → ClassId) (N0 : Nat) (a : Int32) : (esC cA N0 a ++ esM cA N0 a)[posn 35]? = some (en (X0 D cA adK adV N0) (sg0 (cst a)) 35) := rfl
set_option maxRecDepth 100000 in
theorem ea_36 (D : va_G) (cA adK adV : Nat → ClassId) (N0 : Nat) (a : Int32) : (esC cA N0 a ++ esM cA N0 a)[posn 36]? = some (en (X0 D cA adK adV N0) (sg0 (cst a)) 36) := rfl
set_option maxRecDepth 100000 in
theorem ea_37 (D : va_G) (cA adK adV : Nat → ClassId) (N0 : Nat) (a : Int32) : (esC cA N0 a ++ esM cA N0 a)[posn 37]? = some (en (X0 D cA adK adV N0) (sg0 (cst a)) 37) := rfl
set_option maxRecDepth 100000 in
theorem ea_38 (D : va_G) (cA adK adV : Nat → ClassId) (N0 : Nat) (a : Int32) : (esC cA N0 a ++ esM cA N0 a)[posn 38]? = some (en (X0 D cA adK adV N0) (sg0 (cst a)) 38) := rfl
set_option maxRecDepth 100000 in
theorem ea_39 (D : va_G) (cA adK adV : Nat → ClassId) (N0 : Nat) (a : Int32) : (esC cA N0 a ++ esM cA N0 a)[posn 39]? = some (en (X0 D cA adK adV N0) (sg0 (cst a)) 39) := rfl
set_option maxRecDepth 100000 in
theorem ea_40 (D : va_G) (cA adK adV : Nat → ClassId) (N0 : Nat) (a : Int32) : (esC cA N0 a ++ esM cA N0 a)[posn 40]? = some (en (X0 D cA adK adV N0) (sg0 (cst a)) 40) := rfl
set_option maxRecDepth 100000 in
theorem ea_41 (D : va_G) (cA adK adV : Nat → ClassId) (N0 : Nat) (a : Int32) : (esC cA N0 a ++ esM cA N0 a)[posn 41]? = some (en (X0 D cA adK adV N0) (sg0 (cst a)) 41) := rfl
set_option maxRecDepth 100000 in
theorem ea_42 (D : va_G) (cA adK adV : Nat → ClassId) (N0 : Nat) (a : Int32) : (esC cA N0 a ++ esM cA N0 a)[posn 42]? = some (en (X0 D cA adK adV N0) (sg0 (cst a)) 42) := rfl
set_option maxRecDepth 100000 in
theorem ea_43 (D : va_G) (cA adK adV : Nat → ClassId) (N0 : Nat) (a : Int32) : (esC cA N0 a ++ esM cA N0 a)[posn 43]? = some (en (X0 D cA adK adV N0) (sg0 (cst a)) 43) := rfl
set_option maxRecDepth 100000 in
theorem ea_44 (D : va_G) (cA adK adV : Nat → ClassId) (N0 : Nat) (a : Int32) : (esC cA N0 a ++ esM cA N0 a)[posn 44]? = some (en (X0 D cA adK adV N0) (sg0 (cst a)) 44) := rfl
set_option maxRecDepth 100000 in
theorem ea_45 (D : va_G) (cA adK adV : Nat → ClassId) (N0 : Nat) (a : Int32) : (esC cA N0 a ++ esM cA N0 a)[posn 45]? = some (en (X0 D cA adK adV N0) (sg0 (cst a)) 45) := rfl
set_option maxRecDepth 100000 in
theorem ea_46 (D : va_G) (cA adK adV : Nat → ClassId) (N0 : Nat) (a : Int32) : (esC cA N0 a ++ esM cA N0 a)[posn 46]? = some (en (X0 D cA adK adV N0) (sg0 (cst a)) 46) := rfl
set_option maxRecDepth 100000 in
theorem ea_47 (D : va_G) (cA adK adV : Nat → ClassId) (N0 : Nat) (a : Int32) : (esC cA N0 a ++ esM cA N0 a)[posn 47]? = some (en (X0 D cA adK adV N0) (sg0 (cst a)) 47) := rfl
set_option maxRecDepth 100000 in
theorem ea_48 (D : va_G) (cA adK adV : Nat → ClassId) (N0 : Nat) (a : Int32) : (esC cA N0 a ++ esM cA N0 a)[posn 48]? = some (en (X0 D cA adK adV N0) (sg0 (cst a)) 48) := rfl
set_option maxRecDepth 100000 in
theorem ea_49 (D : va_G) (cA adK adV : Nat → ClassId) (N0 : Nat) (a : Int32) : (esC cA N0 a ++ esM cA N0 a)[posn 49]? = some (en (X0 D cA adK adV N0) (sg0 (cst a)) 49) := rfl
set_option maxRecDepth 100000 in
theorem ea_50 (D : va_G) (cA adK adV : Nat → ClassId) (N0 : Nat) (a : Int32) : (esC cA N0 a ++ esM cA N0 a)[posn 50]? = some (en (X0 D cA adK adV N0) (sg0 (cst a)) 50) := rfl
set_option maxRecDepth 100000 in
theorem ea_51 (D : va_G) (cA adK adV : Nat → ClassId) (N0 : Nat) (a : Int32) : (esC cA N0 a ++ esM cA N0 a)[posn 51]? = some (en (X0 D cA adK adV N0) (sg0 (cst a)) 51) := rfl
set_option maxRecDepth 100000 in
theorem ea_52 (D : va_G) (cA adK adV : Nat → ClassId) (N0 : Nat) (a : Int32) : (esC cA N0 a ++ esM cA N0 a)[posn 52]? = some (en (X0 D cA adK adV N0) (sg0 (cst a)) 52) := rfl
set_option maxRecDepth 100000 in
theorem ea_53 (D : va_G) (cA adK adV : Nat → ClassId) (N0 : Nat) (a : Int32) : (esC cA N0 a ++ esM cA N0 a)[posn 53]? = some (en (X0 D cA adK adV N0) (sg0 (cst a)) 53) := rfl
set_option maxRecDepth 100000 in
theorem ea_54 (D : va_G) (cA adK adV : Nat → ClassId) (N0 : Nat) (a : Int32) : (esC cA N0 a ++ esM cA N0 a)[posn 54]? = some (en (X0 D cA adK adV N0) (sg0 (cst a)) 54) := rfl
set_option maxRecDepth 100000 in
theorem ea_55 (D : va_G) (cA adK adV : Nat → ClassId) (N0 : Nat) (a : Int32) : (esC cA N0 a ++ esM cA N0 a)[posn 55]? = some (en (X0 D cA adK adV N0) (sg0 (cst a)) 55) := rfl
set_option maxRecDepth 100000 in
theorem ea_56 (D : va_G) (cA adK adV : Nat → ClassId) (N0 : Nat) (a : Int32) : (esC cA N0 a ++ esM cA N0 a)[posn 56]? = some (en (X0 D cA adK adV N0) (sg0 (cst a)) 56) := rfl
set_option maxRecDepth 100000 in
theorem ea_57 (D : va_G) (cA adK adV : Nat → ClassId) (N0 : Nat) (a : Int32) : (esC cA N0 a ++ esM cA N0 a)[posn 57]? = some (en (X0 D cA adK adV N0) (sg0 (cst a)) 57) := rfl
set_option maxRecDepth 100000 in
theorem ea_58 (D : va_G) (cA adK adV : Nat → ClassId) (N0 : Nat) (a : Int32) : (esC cA N0 a ++ esM cA N0 a)[posn 58]? = some (en (X0 D cA adK adV N0) (sg0 (cst a)) 58) := rfl
set_option maxRecDepth 100000 in
theorem ea_59 (D : va_G) (cA adK adV : Nat → ClassId) (N0 : Nat) (a : Int32) : (esC cA N0 a ++ esM cA N0 a)[posn 59]? = some (en (X0 D cA adK adV N0) (sg0 (cst a)) 59) := rfl
set_option maxRecDepth 100000 in
theorem ea_60 (D : va_G) (cA adK adV : Nat → ClassId) (N0 : Nat) (a : Int32) : (esC cA N0 a ++ esM cA N0 a)[posn 60]? = some (en (X0 D cA adK adV N0) (sg0 (cst a)) 60) := rfl
set_option maxRecDepth 100000 in
theorem ea_61 (D : va_G) (cA adK adV : Nat → ClassId) (N0 : Nat) (a : Int32) : (esC cA N0 a ++ esM cA N0 a)[posn 61]? = some (en (X0 D cA adK adV N0) (sg0 (cst a)) 61) := rfl
set_option maxRecDepth 100000 in
theorem ea_62 (D : va_G) (cA adK adV : Nat → ClassId) (N0 : Nat) (a : Int32) : (esC cA N0 a ++ esM cA N0 a)[posn 62]? = some (en (X0 D cA adK adV N0) (sg0 (cst a)) 62) := rfl
set_option maxRecDepth 100000 in
theorem ea_63 (D : va_G) (cA adK adV : Nat → ClassId) (N0 : Nat) (a : Int32) : (esC cA N0 a ++ esM cA N0 a)[posn 63]? = some (en (X0 D cA adK adV N0) (sg0 (cst a)) 63) := rfl
set_option maxRecDepth 100000 in
theorem ea_64 (D : va_G) (cA adK adV : Nat → ClassId) (N0 : Nat) (a : Int32) : (esC cA N0 a ++ esM cA N0 a)[posn 64]? = some (en (X0 D cA adK adV N0) (sg0 (cst a)) 64) := rfl
set_option maxRecDepth 100000 in
theorem ea_65 (D : va_G) (cA adK adV : Nat → ClassId) (N0 : Nat) (a : Int32) : (esC cA N0 a ++ esM cA N0 a)[posn 65]? = some (en (X0 D cA adK adV N0) (sg0 (cst a)) 65) := rfl
set_option maxRecDepth 100000 in
theorem ea_66 (D : va_G) (cA adK adV : Nat → ClassId) (N0 : Nat) (a : Int32) : (esC cA N0 a ++ esM cA N0 a)[posn 66]? = some (en (X0 D cA adK adV N0) (sg0 (cst a)) 66) := rfl
set_option maxRecDepth 100000 in
theorem ea_67 (D : va_G) (cA adK adV : Nat → ClassId) (N0 : Nat) (a : Int32) : (esC cA N0 a ++ esM cA N0 a)[posn 67]? = some (en (X0 D cA adK adV N0) (sg0 (cst a)) 67) := rfl
set_option maxRecDepth 100000 in
theorem ea_68 (D : va_G) (cA adK adV : Nat → ClassId) (N0 : Nat) (a : Int32) : (esC cA N0 a ++ esM cA N0 a)[posn 68]? = some (en (X0 D cA adK adV N0) (sg0 (cst a)) 68) := rfl
set_option maxRecDepth 100000 in
theorem ea_69 (D : va_G) (cA adK adV : Nat → ClassId) (N0 : Nat) (a : Int32) : (esC cA N0 a ++ esM cA N0 a)[posn 69]? = some (en (X0 D cA adK adV N0) (sg0 (cst a)) 69) := rfl
set_option maxRecDepth 100000 in
theorem ea_70 (D : va_G) (cA adK adV : Nat → ClassId) (N0 : Nat) (a : Int32) : (esC cA N0 a ++ esM cA N0 a)[posn 70]? = some (en (X0 D cA adK adV N0) (sg0 (cst a)) 70) := rfl
set_option maxRecDepth 100000 in
theorem ea_71 (D : va_G) (cA adK adV : Nat → ClassId) (N0 : Nat) (a : Int32) : (esC cA N0 a ++ esM cA N0 a)[posn 71]? = some (en (X0 D cA adK adV N0) (sg0 (cst a)) 71) := rfl
set_option maxRecDepth 100000 in
theorem ea_72 (D : va_G) (cA adK adV : Nat → ClassId) (N0 : Nat) (a : Int32) : (esC cA N0 a ++ esM cA N0 a)[posn 72]? = some (en (X0 D cA adK adV N0) (sg0 (cst a)) 72) := rfl
set_option maxRecDepth 100000 in
theorem ea_73 (D : va_G) (cA adK adV : Nat → ClassId) (N0 : Nat) (a : Int32) : (esC cA N0 a ++ esM cA N0 a)[posn 73]? = some (en (X0 D cA adK adV N0) (sg0 (cst a)) 73) := rfl
set_option maxRecDepth 100000 in
theorem ea_74 (D : va_G) (cA adK adV : Nat → ClassId) (N0 : Nat) (a : Int32) : (esC cA N0 a ++ esM cA N0 a)[posn 74]? = some (en (X0 D cA adK adV N0) (sg0 (cst a)) 74) := rfl
set_option maxRecDepth 100000 in
theorem ea_75 (D : va_G) (cA adK adV : Nat → ClassId) (N0 : Nat) (a : Int32) : (esC cA N0 a ++ esM cA N0 a)[posn 75]? = some (en (X0 D cA adK adV N0) (sg0 (cst a)) 75) := rfl
set_option maxRecDepth 100000 in
theorem ea_76 (D : va_G) (cA adK adV : Nat → ClassId) (N0 : Nat) (a : Int32) : (esC cA N0 a ++ esM cA N0 a)[posn 76]? = some (en (X0 D cA adK adV N0) (sg0 (cst a)) 76) := rfl
set_option maxRecDepth 100000 in
theorem ea_77 (D : va_G) (cA adK adV : Nat → ClassId) (N0 : Nat) (a : Int32) : (esC cA N0 a ++ esM cA N0 a)[posn 77]? = some (en (X0 D cA adK adV N0) (sg0 (cst a)) 77) := rfl
set_option maxRecDepth 100000 in
theorem ea_78 (D : va_G) (cA adK adV : Nat → ClassId) (N0 : Nat) (a : Int32) : (esC cA N0 a ++ esM cA N0 a)[posn 78]? = some (en (X0 D cA adK adV N0) (sg0 (cst a)) 78) := rfl
set_option maxRecDepth 100000 in
theorem ea_79 (D : va_G) (cA adK adV : Nat → ClassId) (N0 : Nat) (a : Int32) : (esC cA N0 a ++ esM cA N0 a)[posn 79]? = some (en (X0 D cA adK adV N0) (sg0 (cst a)) 79) := rfl
set_option maxRecDepth 100000 in
theorem ea_80 (D : va_G) (cA adK adV : Nat → ClassId) (N0 : Nat) (a : Int32) : (esC cA N0 a ++ esM cA N0 a)[posn 80]? = some (en (X0 D cA adK adV N0) (sg0 (cst a)) 80) := rfl
set_option maxRecDepth 100000 in
theorem ea_81 (D : va_G) (cA adK adV : Nat → ClassId) (N0 : Nat) (a : Int32) : (esC cA N0 a ++ esM cA N0 a)[posn 81]? = some (en (X0 D cA adK adV N0) (sg0 (cst a)) 81) := rfl
set_option maxRecDepth 100000 in
theorem ea_82 (D : va_G) (cA adK adV : Nat → ClassId) (N0 : Nat) (a : Int32) : (esC cA N0 a ++ esM cA N0 a)[posn 82]? = some (en (X0 D cA adK adV N0) (sg0 (cst a)) 82) := rfl
set_option maxRecDepth 100000 in
theorem ea_83 (D : va_G) (cA adK adV : Nat → ClassId) (N0 : Nat) (a : Int32) : (esC cA N0 a ++ esM cA N0 a)[posn 83]? = some (en (X0 D cA adK adV N0) (sg0 (cst a)) 83) := rfl
set_option maxRecDepth 100000 in
theorem ea_84 (D : va_G) (cA adK adV : Nat → ClassId) (N0 : Nat) (a : Int32) : (esC cA N0 a ++ esM cA N0 a)[posn 84]? = some (en (X0 D cA adK adV N0) (sg0 (cst a)) 84) := rfl
set_option maxRecDepth 100000 in
theorem ea_85 (D : va_G) (cA adK adV : Nat → ClassId) (N0 : Nat) (a : Int32) : (esC cA N0 a ++ esM cA N0 a)[posn 85]? = some (en (X0 D cA adK adV N0) (sg0 (cst a)) 85) := rfl
set_option maxRecDepth 100000 in
theorem ea_86 (D : va_G) (cA adK adV : Nat → ClassId) (N0 : Nat) (a : Int32) : (esC cA N0 a ++ esM cA N0 a)[posn 86]? = some (en (X0 D cA adK adV N0) (sg0 (cst a)) 86) := rfl
set_option maxRecDepth 100000 in
theorem ea_87 (D : va_G) (cA adK adV : Nat → ClassId) (N0 : Nat) (a : Int32) : (esC cA N0 a ++ esM cA N0 a)[posn 87]? = some (en (X0 D cA adK adV N0) (sg0 (cst a)) 87) := rfl
set_option maxRecDepth 100000 in
theorem ea_88 (D : va_G) (cA adK adV : Nat → ClassId) (N0 : Nat) (a : Int32) : (esC cA N0 a ++ esM cA N0 a)[posn 88]? = some (en (X0 D cA adK adV N0) (sg0 (cst a)) 88) := rfl
set_option maxRecDepth 100000 in
theorem ea_89 (D : va_G) (cA adK adV : Nat → ClassId) (N0 : Nat) (a : Int32) : (esC cA N0 a ++ esM cA N0 a)[posn 89]? = some (en (X0 D cA adK adV N0) (sg0 (cst a)) 89) := rfl
def eaP (D : va_G) (cA adK adV : Nat → ClassId) (N0 : Nat) (a : Int32) (k : Nat) : Prop := k ≠ 1 → k ≠ 3 → (esC cA N0 a ++ esM cA N0 a)[posn k]? = some (en (X0 D cA adK adV N0) (sg0 (cst a)) k)
theorem eb_0 (D : va_G) (cA adK adV : Nat → ClassId) (N0 : Nat) (a : Int32) : ∀ k ∈ [0, 1, 2, 3, 4, 5, 6, 7, 8, 9, 10, 11, 12, 13, 14], eaP D cA adK adV N0 a k := List.forall_mem_cons.mpr ⟨fun _ _ => ea_0 D cA adK adV N0 a, List.forall_mem_cons.mpr ⟨fun h1 _ => absurd rfl h1, List.forall_mem_cons.mpr ⟨fun _ _ => ea_2 D cA adK adV N0 a, List.forall_mem_cons.mpr ⟨fun _ h3 => absurd rfl h3, List.forall_mem_cons.mpr ⟨fun _ _ => ea_4 D cA adK adV N0 a, List.forall_mem_cons.mpr ⟨fun _ _ => ea_5 D cA adK adV N0 a, List.forall_mem_cons.mpr ⟨fun _ _ => ea_6 D cA adK adV N0 a, List.forall_mem_cons.mpr ⟨fun _ _ => ea_7 D cA adK adV N0 a, List.forall_mem_cons.mpr ⟨fun _ _ => ea_8 D cA adK adV N0 a, List.forall_mem_cons.mpr ⟨fun _ _ => ea_9 D cA adK adV N0 a, List.forall_mem_cons.mpr ⟨fun _ _ => ea_10 D cA adK adV N0 a, List.forall_mem_cons.mpr ⟨fun _ _ => ea_11 D cA adK adV N0 a, List.forall_mem_cons.mpr ⟨fun _ _ => ea_12 D cA adK adV N0 a, List.forall_mem_cons.mpr ⟨fun _ _ => ea_13 D cA adK adV N0 a, List.forall_mem_cons.mpr ⟨fun _ _ => ea_14 D cA adK adV N0 a, fun _ h => absurd h List.not_mem_nil⟩⟩⟩⟩⟩⟩⟩⟩⟩⟩⟩⟩⟩⟩⟩
theorem eb_15 (D : va_G) (cA adK adV : Nat → ClassId) (N0 : Nat) (a : Int32) : ∀ k ∈ [15, 16, 17, 18, 19, 20, 21, 22, 23, 24, 25, 26, 27, 28, 29], eaP D cA adK adV N0 a k := List.forall_mem_cons.mpr ⟨fun _ _ => ea_15 D cA adK adV N0 a, List.forall_mem_cons.mpr ⟨fun _ _ => ea_16 D cA adK adV N0 a, List.forall_mem_cons.mpr ⟨fun _ _ => ea_17 D cA adK adV N0 a, List.forall_mem_cons.mpr ⟨fun _ _ => ea_18 D cA adK adV N0 a, List.forall_mem_cons.mpr ⟨fun _ _ => ea_19 D cA adK adV N0 a, List.forall_mem_cons.mpr ⟨fun _ _ => ea_20 D cA adK adV N0 a, List.forall_mem_cons.mpr ⟨fun _ _ => ea_21 D cA adK adV N0 a, List.forall_mem_cons.mpr ⟨fun _ _ => ea_22 D cA adK adV N0 a, List.forall_mem_cons.mpr ⟨fun _ _ => ea_23 D cA adK adV N0 a, List.forall_mem_cons.mpr ⟨fun _ _ => ea_24 D cA adK adV N0 a, List.forall_mem_cons.mpr ⟨fun _ _ => ea_25 D cA adK adV N0 a, List.forall_mem_cons.mpr ⟨fun _ _ => ea_26 D cA adK adV N0 a, List.forall_mem_cons.mpr ⟨fun _ _ => ea_27 D cA adK adV N0 a, List.forall_mem_cons.mpr ⟨fun _ _ => ea_28 D cA adK adV N0 a, List.forall_mem_cons.mpr ⟨fun _ _ => ea_29 D cA adK adV N0 a, fun _ h => absurd h List.not_mem_nil⟩⟩⟩⟩⟩⟩⟩⟩⟩⟩⟩⟩⟩⟩⟩
theorem eb_30 (D : va_G) (cA adK adV : Nat → ClassId) (N0 : Nat) (a : Int32) : ∀ k ∈ [30, 31, 32, 33, 34, 35, 36, 37, 38, 39, 40, 41, 42, 43, 44], eaP D cA adK adV N0 a k := List.forall_mem_cons.mpr ⟨fun _ _ => ea_30 D cA adK adV N0 a, List.forall_mem_cons.mpr ⟨fun _ _ => ea_31 D cA adK adV N0 a, List.forall_mem_cons.mpr ⟨fun _ _ => ea_32 D cA adK adV N0 a, List.forall_mem_cons.mpr ⟨fun _ _ => ea_33 D cA adK adV N0 a, List.forall_mem_cons.mpr ⟨fun _ _ => ea_34 D cA adK adV N0 a, List.forall_mem_cons.mpr ⟨fun _ _ => ea_35 D cA adK adV N0 a, List.forall_mem_cons.mpr ⟨fun _ _ => ea_36 D cA adK adV N0 a, List.forall_mem_cons.mpr ⟨fun _ _ => ea_37 D cA adK adV N0 a, List.forall_mem_cons.mpr ⟨fun _ _ => ea_38 D cA adK adV N0 a, List.forall_mem_cons.mpr ⟨fun _ _ => ea_39 D cA adK adV N0 a, List.forall_mem_cons.mpr ⟨fun _ _ => ea_40 D cA adK adV N0 a, List.forall_mem_cons.mpr ⟨fun _ _ => ea_41 D cA adK adV N0 a, List.forall_mem_cons.mpr ⟨fun _ _ => ea_42 D cA adK adV N0 a, List.forall_mem_cons.mpr ⟨fun _ _ => ea_43 D cA adK adV N0 a, List.forall_mem_cons.mpr ⟨fun _ _ => ea_44 D cA adK adV N0 a, fun _ h => absurd h List.not_mem_nil⟩⟩⟩⟩⟩⟩⟩⟩⟩⟩⟩⟩⟩⟩⟩
theorem eb_45 (D : va_G) (cA adK adV : Nat → ClassId) (N0 : Nat) (a : Int32) : ∀ k ∈ [45, 46, 47, 48, 49, 50, 51, 52, 53, 54, 55, 56, 57, 58, 59], eaP D cA adK adV N0 a k := List.forall_mem_cons.mpr ⟨fun _ _ => ea_45 D cA adK adV N0 a, List.forall_mem_cons.mpr ⟨fun _ _ => ea_46 D cA adK adV N0 a, List.forall_mem_cons.mpr ⟨fun _ _ => ea_47 D cA adK adV N0 a, List.forall_mem_cons.mpr ⟨fun _ _ => ea_48 D cA adK adV N0 a, List.forall_mem_cons.mpr ⟨fun _ _ => ea_49 D cA adK adV N0 a, List.forall_mem_cons.mpr ⟨fun _ _ => ea_50 D cA adK adV N0 a, List.forall_mem_cons.mpr ⟨fun _ _ => ea_51 D cA adK adV N0 a, List.forall_mem_cons.mpr ⟨fun _ _ => ea_52 D cA adK adV N0 a, List.forall_mem_cons.mpr ⟨fun _ _ => ea_53 D cA adK adV N0 a, List.forall_mem_cons.mpr ⟨fun _ _ => ea_54 D cA adK adV N0 a, List.forall_mem_cons.mpr ⟨fun _ _ => ea_55 D cA adK adV N0 a, List.forall_mem_cons.mpr ⟨fun _ _ => ea_56 D cA adK adV N0 a, List.forall_mem_cons.mpr ⟨fun _ _ => ea_57 D cA adK adV N0 a, List.forall_mem_cons.mpr ⟨fun _ _ => ea_58 D cA adK adV N0 a, List.forall_mem_cons.mpr ⟨fun _ _ => ea_59 D cA adK adV N0 a, fun _ h => absurd h List.not_mem_nil⟩⟩⟩⟩⟩⟩⟩⟩⟩⟩⟩⟩⟩⟩⟩
theorem eb_60 (D : va_G) (cA adK adV : Nat → ClassId) (N0 : Nat) (a : Int32) : ∀ k ∈ [60, 61, 62, 63, 64, 65, 66, 67, 68, 69, 70, 71, 72, 73, 74], eaP D cA adK adV N0 a k := List.forall_mem_cons.mpr ⟨fun _ _ => ea_60 D cA adK adV N0 a, List.forall_mem_cons.mpr ⟨fun _ _ => ea_61 D cA adK adV N0 a, List.forall_mem_cons.mpr ⟨fun _ _ => ea_62 D cA adK adV N0 a, List.forall_mem_cons.mpr ⟨fun _ _ => ea_63 D cA adK adV N0 a, List.forall_mem_cons.mpr ⟨fun _ _ => ea_64 D cA adK adV N0 a, List.forall_mem_cons.mpr ⟨fun _ _ => ea_65 D cA adK adV N0 a, List.forall_mem_cons.mpr ⟨fun _ _ => ea_66 D cA adK adV N0 a, List.forall_mem_cons.mpr ⟨fun _ _ => ea_67 D cA adK adV N0 a, List.forall_mem_cons.mpr ⟨fun _ _ => ea_68 D cA adK adV N0 a, List.forall_mem_cons.mpr ⟨fun _ _ => ea_69 D cA adK adV N0 a, List.forall_mem_cons.mpr ⟨fun _ _ => ea_70 D cA adK adV N0 a, List.forall_mem_cons.mpr ⟨fun _ _ => ea_71 D cA adK adV N0 a, List.forall_mem_cons.mpr ⟨fun _ _ => ea_72 D cA adK adV N0 a, List.forall_mem_cons.mpr ⟨fun _ _ => ea_73 D cA adK adV N0 a, List.forall_mem_cons.mpr ⟨fun _ _ => ea_74 D cA adK adV N0 a, fun _ h => absurd h List.not_mem_nil⟩⟩⟩⟩⟩⟩⟩⟩⟩⟩⟩⟩⟩⟩⟩
theorem eb_75 (D : va_G) (cA adK adV : Nat → ClassId) (N0 : Nat) (a : Int32) : ∀ k ∈ [75, 76, 77, 78, 79, 80, 81, 82, 83, 84, 85, 86, 87, 88, 89], eaP D cA adK adV N0 a k := List.forall_mem_cons.mpr ⟨fun _ _ => ea_75 D cA adK adV N0 a, List.forall_mem_cons.mpr ⟨fun _ _ => ea_76 D cA adK adV N0 a, List.forall_mem_cons.mpr ⟨fun _ _ => ea_77 D cA adK adV N0 a, List.forall_mem_cons.mpr ⟨fun _ _ => ea_78 D cA adK adV N0 a, List.forall_mem_cons.mpr ⟨fun _ _ => ea_79 D cA adK adV N0 a, List.forall_mem_cons.mpr ⟨fun _ _ => ea_80 D cA adK adV N0 a, List.forall_mem_cons.mpr ⟨fun _ _ => ea_81 D cA adK adV N0 a, List.forall_mem_cons.mpr ⟨fun _ _ => ea_82 D cA adK adV N0 a, List.forall_mem_cons.mpr ⟨fun _ _ => ea_83 D cA adK adV N0 a, List.forall_mem_cons.mpr ⟨fun _ _ => ea_84 D cA adK adV N0 a, List.forall_mem_cons.mpr ⟨fun _ _ => ea_85 D cA adK adV N0 a, List.forall_mem_cons.mpr ⟨fun _ _ => ea_86 D cA adK adV N0 a, List.forall_mem_cons.mpr ⟨fun _ _ => ea_87 D cA adK adV N0 a, List.forall_mem_cons.mpr ⟨fun _ _ => ea_88 D cA adK adV N0 a, List.forall_mem_cons.mpr ⟨fun _ _ => ea_89 D cA adK adV N0 a, fun _ h => absurd h List.not_mem_nil⟩⟩⟩⟩⟩⟩⟩⟩⟩⟩⟩⟩⟩⟩⟩
theorem es_at (D : va_G) (cA adK adV : Nat → ClassId) (N0 : Nat) (a : Int32) : ∀ k, k < 90 → k ≠ 1 → k ≠ 3 → (esC cA N0 a ++ esM cA N0 a)[posn k]? = some (en (X0 D cA adK adV N0) (sg0 (cst a)) k) := by
  intro k hk
  by_cases h0 : k < 15
  · exact eb_0 D cA adK adV N0 a k (by simp; omega)
  by_cases h15 : k < 30
  · exact eb_15 D cA adK adV N0 a k (by simp; omega)
  by_cases h30 : k < 45
  · exact eb_30 D cA adK adV N0 a k (by simp; omega)
  by_cases h45 : k < 60
  · exact eb_45 D cA adK adV N0 a k (by simp; omega)
  by_cases h60 : k < 75
  · exact eb_60 D cA adK adV N0 a k (by simp; omega)
  exact eb_75 D cA adK adV N0 a k (by simp; omega)
set_option maxRecDepth 100000 in
theorem bd_wl {D : va_G} {cA adK adV : Nat → ClassId} {N0 : Nat} {a : Int32} {H : Heap} (hB : Bd D N0 (esC cA N0 a ++ esM cA N0 a) H) : va_P (xD (X0 D cA adK adV N0)) vwCl (wl (X0 D cA adK adV N0) (sg0 (cst a))) H := by
  intro k q hq
  have hk : k < 90 := by
    rcases Nat.lt_or_ge k 90 with h | h
    · exact h
    · rw [wl_none _ _ h] at hq; cases hq
  rw [wl_get _ _ hk] at hq
  cases hq
  by_cases h1 : k = 1
  · subst h1
    have := hB.2 1 (N0 + 1, .inl (cA 2, 10, .inr (.inr (.inr (.inr (tkF (N0 + 53) 10)))))) (bw_get rfl)
    have h2 : H[N0 + 1]? = some (vp_cell (cA 2) (10, .inr (.inr (.inr (.inr (tkF (N0 + 53) 10)))))) := this
    rw [en_sts _ _ ok_1]
    show H[N0 + 1]? = some (vp_cell (cA 2) (10, .inr (.inr (.inr (.inr (fun j => some (N0 + posn (23 + j))))))))
    rw [h2, vp_cell_q, vp_cell_q]
    refine congrArg some (arrV_congr (fun j hj => ?_))
    rw [tkF, if_pos hj, pos_st j hj, ← Nat.add_assoc]
  by_cases h3 : k = 3
  · subst h3
    have := hB.2 3 (N0 + 3, .inl (cA 3, 30, .inr (.inr (.inr (.inr (tkF (N0 + 4) 30)))))) (bw_get rfl)
    have h2 : H[N0 + 3]? = some (vp_cell (cA 3) (30, .inr (.inr (.inr (.inr (tkF (N0 + 4) 30)))))) := this
    rw [en_tks _ _ ok_3]
    show H[N0 + 3]? = some (vp_cell (cA 3) (30, .inr (.inr (.inr (.inr (fun j => some (N0 + posn (33 + (nI j).toNatClampNeg))))))))
    rw [h2, vp_cell_q, vp_cell_q]
    refine congrArg some (arrV_congr (fun j hj => ?_))
    rw [tkF, if_pos hj, nI_clamp (by omega), pos_tk j hj, ← Nat.add_assoc]
  exact hB.2 (posn k) _ (bw_get (es_at D cA adK adV N0 a k hk h1 h3))
set_option maxRecDepth 100000 in
set_option maxHeartbeats 8000000 in
/-- the law, from its entry, out of the pure claim -/
theorem whole_open (HP : ∀ (L : Nat) (xs : Nat → Int32) (a : Int32), L ≤ 2561 → ∃ n, w_law L xs (fun _ => True) n (sg0 (cst a)) 1) {p : Program} {e : Env} {s : State} {m : MethodId} {below : List Frame} {meth : Method} {c : Code} (l : Launch) (hflags : l.flags = flags0) {b L : Nat} {xs : Nat → Int32} (hL : L ≤ 2561) (C0 : lw_At p s m meth c b L xs) : W p l e room_1 s m #[Value.ref b] below meth c s.heap [] 0 0 (lw_Z below #[Value.ref b] s) (entryFrame m ([Value.ref b] : List Value).toArray 4) := by
  obtain ⟨D, cA, adK, adV, hKn, hXX⟩ := law_tables C0
  obtain ⟨hx, hb, hr, hml, hown, hts, hX, hbl, hlocks, hgv⟩ := id C0
  have hW := i_ws hts
  obtain ⟨hKb, hSb⟩ := hXX (X0 D cA adK adV s.heap.size) rfl rfl rfl rfl
  have E : Eb p s m #[Value.ref b] meth c D cA s.heap.size 4 cL_law RL := ⟨hx, hb, hml, hown, hW, hKn, hlocks, Nat.le_refl _⟩
  have E2 : Ev p room_1 s m #[Value.ref b] meth c (X0 D cA adK adV s.heap.size) (fun q => s.heap.size ≤ q) 4 90 1619 cL_law RL := ⟨hx, hb, hml, hown, hW, hKb, hSb, fun i j hi hj h => posn_inj i hi j hj (Nat.add_left_cancel h), fun k _ => Nat.le_add_right _ _, hlocks, by decide, by decide⟩
  obtain ⟨n, hw⟩ := HP L xs (cl0 L xs) hL
  have key : GB p l e room_1 s m #[Value.ref b] below meth c D s.heap.size 4 (lw_Z below #[Value.ref b] s) 0 0 [] 0 [some (.ref b), none, none, none] [] := by
    refine b_new (pc := 0) (fs := [.int 0, .int 0, .int 0, .int 0, .int 0, .int 0, .int 0, .int 0, .null, .null, .null, .null, .null, .int 0, .null, .null]) E kc_8 q_71 q_72 q_55 dv_8 rfl rfl dL_law_0 ?_
    refine b_dup (pc := 3) E dL_law_3 rfl ?_
    refine b_aload_n (pc := 4) E dL_law_4 rfl rfl ?_
    refine b_iconst (pc := 5) (v := 0) E dL_law_5 (by decide) ?_
    refine b_cell (pc := 6) (rest := [.ref (s.heap.size + 0), .ref (s.heap.size + 0)]) E hL hX hbl rfl q_767 rfl rfl rfl dL_law_6 rfl rfl ?_
    refine b_callI (pc := 9) (As := [.int (cl0 L xs)]) (rest := [.ref (s.heap.size + 0)]) (es' := esC cA s.heap.size (cl0 L xs)) E (c_X8_init D cA s.heap.size _ 1 0 (cl0 L xs) rfl (by decide) rfl) cii_X8_init q_73 rfl rfl rfl rfl dL_law_9 rfl rfl ?_
    refine b_astore_n (pc := 12) (lv' := [some (.ref b), some (.ref (s.heap.size + 0)), none, none]) E dL_law_12 rfl rfl rfl rfl ?_
    refine b_new (pc := 13) (fs := [.int 0, .int 0, .int 0, .int 0, .int 0, .int 0, .int 0, .int 0, .int 0, .int 0, .int 0, .null, .null, .null, .null, .null, .null, .null, .int 0, .int 0, .null, .null, .null, .null, .null, .null, .null, .int 0, .int 0, .null, .null, .int 0, .null, .null, .int 0, .int 0, .null, .null, .int 0, .null, .null, .null, .int 0, .int 0, .int 0, .int 0, .int 0, .int 0, .int 0, .int 0, .int 0, .null, .null, .null, .int 0]) E kc_9 q_770 q_771 q_65 dv_9 rfl rfl dL_law_13 ?_
    refine b_dup (pc := 16) E dL_law_16 rfl ?_
    refine b_aload_n (pc := 17) E dL_law_17 rfl rfl ?_
    refine b_iconst (pc := 18) (v := 0) E dL_law_18 (by decide) ?_
    refine b_cell (pc := 19) (rest := [.ref (s.heap.size + 63), .ref (s.heap.size + 63)]) E hL hX hbl rfl q_767 rfl rfl rfl dL_law_19 rfl rfl ?_
    refine b_callI (pc := 22) (As := [.int (cl0 L xs)]) (rest := [.ref (s.heap.size + 63)]) (es' := esC cA s.heap.size (cl0 L xs) ++ esM cA s.heap.size (cl0 L xs)) E (c_X9_init D cA s.heap.size _ 64 63 (cl0 L xs) rfl (by decide) rfl) cii_X9_init q_772 rfl rfl rfl rfl dL_law_22 rfl rfl ?_
    refine b_astore_n (pc := 25) (lv' := [some (.ref b), some (.ref (s.heap.size + 0)), some (.ref (s.heap.size + 63)), none]) E dL_law_25 rfl rfl rfl rfl ?_
    refine b_iconst (pc := 26) (v := 1) E dL_law_26 (by decide) ?_
    refine b_istore_n (pc := 27) (lv' := [some (.ref b), some (.ref (s.heap.size + 0)), some (.ref (s.heap.size + 63)), some (.int 1)]) E dL_law_27 rfl rfl rfl rfl ?_
    refine b_cs (cells' := 90) (slots' := 1619) rfl rfl ?_
    intro H locs ls hB hS hl
    refine t_law (K := fun _ => True) E2 ⟨hX, hbl, Nat.not_le.mpr hbl⟩ (fun s0 _ => ?_) n _ _ hw H locs ls (bd_wl hB) hS hl
    refine r_iconst (pc := 792) (v := 1) E2 dL_law_792 (by decide) ?_
    intro H locs ls hP hS hl
    refine va_forget (fun q hq => hS.2.2 q hq) ?_
    refine W.widen (k := 600000) (n := 7302250) (by decide) (by decide) ?_
    exact lw_ret hx hb hr hlocks dL_law_793
  rw [lg_entry_eq]
  exact key s.heap [] _ ⟨rfl, fun k q h => by simp [bw] at h⟩ va_S.rf (Lv.entry [Value.ref b] (k := 3) (Nat.le_of_ble_eq_true rfl))

