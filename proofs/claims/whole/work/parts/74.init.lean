/-! the first state keeps the invariant -/
theorem cst_nn (a : Int32) : nn (cst a) ∧ N (cst a) ≤ 9000 := by
  have h0 : nn (0 : Int32) ∧ N (0 : Int32) ≤ 9000 := ⟨nn_nI (m := 0) (by decide), by decide⟩
  have h9 : nn (9000 : Int32) ∧ N (9000 : Int32) ≤ 9000 := ⟨nn_nI (m := 9000) (by decide), by decide⟩
  unfold cst
  by_cases h1 : 9000 < a
  · rw [if_pos h1, if_pos (by decide)]; exact h9
  · rw [if_neg h1]
    by_cases h2 : 0 < a
    · rw [if_pos h2]
      rw [Int32.lt_iff_toInt_lt, k32_0] at h2
      rw [Int32.lt_iff_toInt_lt, k32_9000] at h1
      have := N_int (x := a) (by omega)
      exact ⟨nn_of (by omega), by omega⟩
    · rw [if_neg h2]; exact h0
theorem i0_sc (a : Int32) : ISc 0 0 0 (sg0 a) := ⟨by omega, by omega, rfl, rfl, rfl, rfl, ⟨0, by omega, rfl, rfl⟩, rfl, rfl, rfl, rfl, rfl, rfl, rfl, rfl, rfl, rfl⟩
theorem i0_ru (a : Int32) : IRu (sg0 a) := ⟨⟨7, 0, 0, Or.inl rfl, by omega, by omega, rfl, rfl, rfl, rfl, rfl, rfl, rfl, fun j hj => absurd hj (by omega), fun j hj => absurd hj (by omega)⟩, Or.inl rfl, rfl, nn_nI (m := 0) (by decide), (by decide : N (0 : Int32) ≤ 5000)⟩
theorem i0_tp (a : Int32) : ITp (sg0 a) := ⟨0, by omega, rfl, rfl, fun j hj => absurd hj (by omega)⟩
theorem i0_as (a : Int32) : IAs (sg0 a) := ⟨0, by omega, rfl, rfl, fun j hj => absurd hj (by omega)⟩
theorem i0_tk (a : Int32) : ITk 0 (sg0 a) := ⟨fun i => i, fun i hi => ⟨hi, rfl⟩, fun i j _ _ e => e, fun i hi => absurd hi (by omega)⟩
theorem inv0 (a : Int32) : Inv 0 (sg0 (cst a)) := by
  obtain ⟨h1, h2⟩ := cst_nn a
  generalize cst a = b at *
  have z : nn (0 : Int32) := nn_nI (m := 0) (by decide)
  have zN : N (0 : Int32) = 0 := by decide
  have hz : ∀ k j, 4 ≤ k → k ≠ 63 → sg0 b k j = 0 := fun k j h3 h4 => by unfold sg0; rw [if_neg (by omega), if_neg (by omega), if_neg h4]
  refine ⟨0, 0, i0_sc _, fun i hi => ?_, i0_tk _, ⟨fun i hi => ?_, ⟨h1, z, z, ?_⟩, fun i hi => absurd hi (by omega), fun i j _ hj => absurd hj (by omega), fun s hs => ?_⟩, i0_ru _, i0_tp _, i0_as _⟩
  · rw [hz (23 + i) 0 (by omega) (by omega), hz (23 + i) 1 (by omega) (by omega), hz (23 + i) 2 (by omega) (by omega), hz (23 + i) 3 (by omega) (by omega), hz (23 + i) 4 (by omega) (by omega), hz (23 + i) 5 (by omega) (by omega), hz (23 + i) 6 (by omega) (by omega)]
    exact ⟨rfl, rfl, rfl, rfl, rfl, rfl, rfl⟩
  · rw [hz 66 i (by omega) (by omega), hz 67 i (by omega) (by omega), hz 68 i (by omega) (by omega), hz 69 i (by omega) (by omega), hz 70 i (by omega) (by omega), zN]
    exact ⟨z, z, z, by omega, z, by omega, z, by omega⟩
  · have e : sumN (fun i => N (sg0 b 66 i) + N (sg0 b 67 i)) 10 = 0 := by
      rw [sumN_congr (g := fun _ => 0) (fun i hi => by rw [hz 66 i (by omega) (by omega), hz 67 i (by omega) (by omega), zN])]
      rfl
    rw [e, show sg0 b 63 1 = b from rfl, show sg0 b 63 2 = 0 from rfl, show sg0 b 63 3 = 0 from rfl, zN]
    omega
  · rw [hz 67 s (by omega) (by omega), zN]; rfl
