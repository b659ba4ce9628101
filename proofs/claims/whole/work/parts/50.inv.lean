/-! THE PURE PART: what holds between the class's cells and the reference's -/
def bI (p : Prop) [Decidable p] : Int32 := if p then 1 else 0
theorem i10 : ((1 : Int32) = 0) = False := eq_false (by decide)
theorem i00 : ((0 : Int32) = 0) = True := eq_true rfl
theorem within_eq (s : ST) (v a b : Int32) (Q : Int32 → ST → Prop) : w_X8_within s v a b Q = Q (bI (a ≤ v ∧ v ≤ b)) s := by
  unfold w_X8_within bI
  apply propext
  by_cases h1 : v < a
  · have h3 : ¬ (a ≤ v ∧ v ≤ b) := fun h => Int32.not_le.mpr h1 h.1
    rw [if_neg h3]
    exact ⟨fun h => h.1 h1, fun h => ⟨fun _ => h, fun z => absurd h1 z⟩⟩
  · by_cases h2 : b < v
    · have h3 : ¬ (a ≤ v ∧ v ≤ b) := fun h => Int32.not_le.mpr h2 h.2
      rw [if_neg h3]
      exact ⟨fun h => (h.2 h1).1 h2, fun h => ⟨fun z => absurd z h1, fun _ => ⟨fun _ => h, fun z => absurd h2 z⟩⟩⟩
    · have h3 : a ≤ v ∧ v ≤ b := ⟨Int32.not_lt.mp h1, Int32.not_lt.mp h2⟩
      rw [if_pos h3]
      exact ⟨fun h => (h.2 h1).2 h2, fun h => ⟨fun z => absurd z h1, fun _ => ⟨fun z => absurd z h2, fun _ => h⟩⟩⟩
theorem cmp_lt (x y : Int64) : lg_cmp x y < 0 ↔ x < y := by
  have h := lg_cmp_ge x y
  rw [← Int32.not_le, h, Int64.not_le]
theorem cmp_gt (x y : Int64) : 0 < lg_cmp x y ↔ y < x := by
  have h := lg_cmp_le x y
  rw [← Int32.not_le, h, Int64.not_le]
theorem in_eq (s : ST) (v a b : Int64) (Q : Int32 → ST → Prop) : w_X9_in s v a b Q = Q (bI (a ≤ v ∧ v ≤ b)) s := by
  unfold w_X9_in bI
  apply propext
  rw [cmp_lt, cmp_gt]
  by_cases h1 : v < a
  · have h3 : ¬ (a ≤ v ∧ v ≤ b) := fun h => Int64.not_le.mpr h1 h.1
    rw [if_neg h3]
    exact ⟨fun h => h.1 h1, fun h => ⟨fun _ => h, fun z => absurd h1 z⟩⟩
  · by_cases h2 : b < v
    · have h3 : ¬ (a ≤ v ∧ v ≤ b) := fun h => Int64.not_le.mpr h2 h.2
      rw [if_neg h3]
      exact ⟨fun h => (h.2 h1).1 h2, fun h => ⟨fun z => absurd z h1, fun _ => ⟨fun _ => h, fun z => absurd h2 z⟩⟩⟩
    · have h3 : a ≤ v ∧ v ≤ b := ⟨Int64.not_lt.mp h1, Int64.not_lt.mp h2⟩
      rw [if_pos h3]
      exact ⟨fun h => (h.2 h1).2 h2, fun h => ⟨fun z => absurd z h1, fun _ => ⟨fun z => absurd z h2, fun _ => h⟩⟩⟩
theorem le64 (a b : Int32) : a.toInt64 ≤ b.toInt64 ↔ a ≤ b := by
  rw [Int64.le_iff_toInt_le, Int32.le_iff_toInt_le, Int32.toInt_toInt64, Int32.toInt_toInt64]
/-- 'in' of three ints -/
theorem in_eq3 (s : ST) (v a b : Int32) (Q : Int32 → ST → Prop) : w_X9_in s v.toInt64 a.toInt64 b.toInt64 Q = Q (bI (a ≤ v ∧ v ≤ b)) s := by
  rw [in_eq]
  congr 1
  unfold bI
  simp only [le64]
theorem nar_bI (p : Prop) [Decidable p] : narrow .boolean (.int (bI p)) = .int (bI p) := by
  unfold bI
  by_cases h : p
  · rw [if_pos h]; rfl
  · rw [if_neg h]; rfl
theorem bI_0 (p : Prop) [Decidable p] : (bI p = 0) = ¬ p := by
  unfold bI
  by_cases h : p
  · rw [if_pos h]; simp [h]
  · rw [if_neg h]; simp [h]
theorem isStretch8_eq (s : ST) (v : Int32) (Q : Int32 → ST → Prop) : w_X8_isStretch s v Q = Q (bI (0 ≤ v ∧ v ≤ s 0 7 - 1)) s := by
  unfold w_X8_isStretch
  rw [within_eq]
  apply propext
  exact ⟨fun h => h.2, fun h => ⟨nar_bI _, h⟩⟩
theorem isStretch9_eq (s : ST) (v : Int32) (Q : Int32 → ST → Prop) : w_X9_isStretch s v Q = Q (bI (0 ≤ v ∧ v ≤ s 63 10 - 1)) s := by
  unfold w_X9_isStretch
  rw [show (0 : Int64) = (0 : Int32).toInt64 from rfl, in_eq3]
  apply propext
  exact ⟨fun h => h.2, fun h => ⟨nar_bI _, h⟩⟩
theorem st_in {n : Nat} (hn : n ≤ 10) (v : Int32) : (0 ≤ v ∧ v ≤ nI n - 1) ↔ vp_in v n := by
  rw [vp_in_iff, Int32.le_iff_toInt_le, Int32.le_iff_toInt_le]
  have h1 : (nI n - 1).toInt = (n : Int) - 1 := by
    have := pk_sub_toInt (a := n) (b := 1) (by omega) (by omega)
    exact this
  rw [h1]
  have h0 : (0 : Int32).toInt = 0 := rfl
  rw [h0]
  omega
