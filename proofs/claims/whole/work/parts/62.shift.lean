/-! shift -/
theorem m_shift {σ s1 : ST} {n t i : Nat} (e1 : s1 = up σ 63 0 0) (hn : n ≤ 10) (ht : t ≤ 30) (h10 : s1 63 10 = nI n) (h18 : s1 63 18 = nI t) {x y : Int32} (hi : i < t) (hix : s1 71 i = x) (hu : ∀ j, j < t → s1 71 j = x → j = i) (hr : s1 63 27 = 0 ∨ s1 63 27 = 1 ∨ s1 63 27 = 2) {Q : Int32 → ST → Prop}
    (hA : ¬ vp_in y n → Q (-1000001) s1) (hB : vp_in y n → s1 72 i = y → Q (-1000001) s1)
    (hC : vp_in y n → ¬ s1 72 i = y → ¬ (s1 63 27 = 2 ∨ (s1 63 27 = 1 ∧ s1 65 y.toNatClampNeg = s1 77 i)) → Q (-1000002) s1)
    (hD : vp_in y n → ¬ s1 72 i = y → (s1 63 27 = 2 ∨ (s1 63 27 = 1 ∧ s1 65 y.toNatClampNeg = s1 77 i)) → w_X9_shift_J71 Q s1 y (nI i)) : w_X9_shift σ x y Q := by
  intro s1' e1'
  obtain rfl : s1' = s1 := e1'.trans e1.symm
  have h30 : vp_in (nI i) 30 := vp_in_nI (by omega) (by decide)
  refine R9_slot ht h18 (fun j hj hjx => ⟨fun w => absurd w (nI_none (by omega)), fun _ => ?_⟩) (fun w => absurd hix (w i hi))
  obtain rfl := hu j hj hjx
  refine R9_is hn h10 (fun hy hy10 => tt1 ⟨h30, ?_⟩) (fun hy => tt0 (hA hy))
  rw [nI_clamp (show j < 2 ^ 31 by omega)]
  refine ⟨fun hne => ⟨fun c0 => hC hy hne (by rw [c0]; rintro (w | ⟨w, -⟩) <;> exact absurd w (by decide)), fun c0 => ⟨fun c1 => ?_, fun c1 => ⟨hy10, h30, fun c2 => hD hy hne (Or.inr ⟨c1, c2⟩), fun c2 => hC hy hne (by rintro (w | ⟨-, w⟩); exact absurd (c1.symm.trans w) (by decide); exact c2 w)⟩⟩⟩, fun he => hB hy he⟩
  refine hD hy hne (Or.inl ?_)
  rcases hr with w | w | w
  · exact absurd w c0
  · exact absurd w c1
  · exact w
theorem mv3 (f h m : Int32) : f - m + (h + m) = f + h := by
  rw [Int32.sub_eq_add_neg, Int32.add_assoc, Int32.add_comm h m, ← Int32.add_assoc (-m), Int32.add_comm (-m) m, ← Int32.sub_eq_add_neg, Int32.sub_self, Int32.zero_add]
theorem mv4 (f h m : Int32) : f + m + (h - m) = f + h := by
  rw [Int32.add_comm f m, Int32.add_comm (m + f), ← Int32.add_assoc, Int32.sub_add_cancel, Int32.add_comm]
theorem inv_shift {c n t i f j : Nat} {σ τ : ST} {y : Int32} (hs : ISc n t c σ) (hst : ISt σ) (hmo : IMo n t σ) (hru : IRu σ) (htp : ITp σ) (has : IAs σ) {pi : Nat → Nat} (p1 : ∀ i, i < 30 → pi i < 30 ∧ σ 3 i = nI (pi i)) (p2 : ∀ i j, i < 30 → j < 30 → pi i = pi j → i = j) (p3 : ∀ i, i < t → tkEq σ (pi i) i) (hi : i < t) (hf : f = N (σ 72 i)) (hj : j = N y) (hjn : j < n) (hyn : nn y) (hfj : f ≠ j) (hm : N (σ 73 i) ≤ N (σ 66 j))
    (ag : ∀ a b, ¬ (a = 63 ∧ b = 0) → ¬ (23 ≤ a ∧ a < 33 ∧ b = 3) → a ≠ 66 → a ≠ 67 → ¬ (a = 33 + pi i ∧ b = 1) → ¬ (a = 72 ∧ b = i) → τ a b = σ a b)
    (h3 : ∀ k, k < 10 → τ (23 + k) 3 = τ 67 k) (h66 : ∀ k, k < 10 → τ 66 k = if k = j then σ 66 k - σ 73 i else if k = f then σ 66 k + σ 73 i else σ 66 k) (h67 : ∀ k, k < 10 → τ 67 k = if k = j then σ 67 k + σ 73 i else if k = f then σ 67 k - σ 73 i else σ 67 k) (ht1 : τ (33 + pi i) 1 = y) (h72 : τ 72 i = y) : Inv (c + 1) τ := by
  obtain ⟨m1, m2, m3, m4, m5⟩ := id hmo
  obtain ⟨q1, q2, q3, q4⟩ := id m2
  obtain ⟨u1, u2, u3, u4, u5, u6, u7, -⟩ := m3 i hi
  obtain ⟨hn, ht, -⟩ := id hs
  have hj10 : j < 10 := by omega
  have hf10 : f < 10 := by omega
  have hpi := (p1 i (by omega)).1
  have hf9 : ∀ i, i < 10 → N (σ 66 i) + N (σ 67 i) ≤ sumN (fun i => N (σ 66 i) + N (σ 67 i)) 10 := fun i hi => sumN_le (f := fun i => N (σ 66 i) + N (σ 67 i)) hi
  have hmf : N (σ 73 i) ≤ N (σ 67 f) := by
    rw [m5 f hf10]
    have := sumN_le (f := fun i => if N (σ 72 i) = f then N (σ 73 i) else 0) hi
    simp only [← hf, if_true] at this
    exact this
  obtain ⟨v1, v2⟩ := nn_sub (m1 j hj10).1 u5 hm
  obtain ⟨v3, v4⟩ := nn_add (m1 f hf10).1 u5 (by have := hf9 f hf10; omega)
  obtain ⟨v5, v6⟩ := nn_add (m1 j hj10).2.1 u5 (by have := hf9 j hj10; omega)
  obtain ⟨v7, v8⟩ := nn_sub (m1 f hf10).2.1 u5 hmf
  have e73 : τ 73 = σ 73 := funext fun b => ag _ _ (by omega) (by omega) (by omega) (by omega) (by omega) (by omega)
  have e71 : τ 71 = σ 71 := funext fun b => ag _ _ (by omega) (by omega) (by omega) (by omega) (by omega) (by omega)
  have e74 : τ 74 = σ 74 := funext fun b => ag _ _ (by omega) (by omega) (by omega) (by omega) (by omega) (by omega)
  have hN66 : ∀ k, k < 10 → nn (τ 66 k) ∧ N (τ 66 k) = if k = j then N (σ 66 k) - N (σ 73 i) else if k = f then N (σ 66 k) + N (σ 73 i) else N (σ 66 k) := by
    intro k hk
    rw [h66 k hk]
    by_cases k1 : k = j
    · subst k1; simp only [if_true]; exact ⟨v1, v2⟩
    · by_cases k2 : k = f
      · rw [if_neg k1, if_neg k1, if_pos k2, if_pos k2, k2]; exact ⟨v3, v4⟩
      · rw [if_neg k1, if_neg k1, if_neg k2, if_neg k2]; exact ⟨(m1 k hk).1, rfl⟩
  have hN67 : ∀ k, k < 10 → nn (τ 67 k) ∧ N (τ 67 k) = if k = j then N (σ 67 k) + N (σ 73 i) else if k = f then N (σ 67 k) - N (σ 73 i) else N (σ 67 k) := by
    intro k hk
    rw [h67 k hk]
    by_cases k1 : k = j
    · subst k1; simp only [if_true]; exact ⟨v5, v6⟩
    · by_cases k2 : k = f
      · rw [if_neg k1, if_neg k1, if_pos k2, if_pos k2, k2]; exact ⟨v7, v8⟩
      · rw [if_neg k1, if_neg k1, if_neg k2, if_neg k2]; exact ⟨(m1 k hk).2.1, rfl⟩
  refine ⟨n, t, (fr_sc hs (fun a b hf => ag _ _ (by omega) (by omega) (by omega) (by omega) (by omega) (by omega))).mono (by omega), fun k hk => ?_, ⟨pi, fun k hk => ?_, p2, fun k hk => ?_⟩, ⟨fun k hk => ?_, ?_, fun k hk => ?_, fun a b hab hb => ?_, fun s hs10 => ?_⟩, fr_ru hru (fun a b hf => ag _ _ (by omega) (by omega) (by omega) (by omega) (by omega) (by omega)), fr_tp htp (fun a b hf => ag _ _ (by omega) (by omega) (by omega) (by omega) (by omega) (by omega)), fr_as has (fun a b hf => ag _ _ (by omega) (by omega) (by omega) (by omega) (by omega) (by omega))⟩
  · obtain ⟨g0, g1, g2, g3, g4, g5, g6⟩ := hst k hk
    have gg : ∀ b, b ≠ 3 → τ (23 + k) b = σ (23 + k) b := fun b hb => ag _ _ (by omega) (by omega) (by omega) (by omega) (by omega) (by omega)
    have gm : ∀ a b, 64 ≤ a → a ≤ 70 → a ≠ 66 → a ≠ 67 → τ a b = σ a b := fun a b z1 z2 z3 z4 => ag _ _ (by omega) (by omega) (by omega) (by omega) (by omega) (by omega)
    rw [gg 0 (by omega), gg 1 (by omega), gg 2 (by omega), gg 4 (by omega), gg 5 (by omega), gg 6 (by omega), gm 64 k (by omega) (by omega) (by omega) (by omega), gm 65 k (by omega) (by omega) (by omega) (by omega), gm 68 k (by omega) (by omega) (by omega) (by omega), gm 69 k (by omega) (by omega) (by omega) (by omega), gm 70 k (by omega) (by omega) (by omega) (by omega)]
    refine ⟨g0, g1, ?_, h3 k hk, g4, g5, g6⟩
    rw [g2, h66 k hk, h67 k hk]
    by_cases k1 : k = j
    · rw [if_pos k1, if_pos k1, mv3]
    · rw [if_neg k1, if_neg k1]
      by_cases k2 : k = f
      · rw [if_pos k2, if_pos k2, mv4]
      · rw [if_neg k2, if_neg k2]
  · rw [ag 3 k (by omega) (by omega) (by omega) (by omega) (by omega) (by omega)]; exact p1 k hk
  · obtain ⟨g0, g1, g2, g3, g4, g5, g6⟩ := p3 k hk
    have hpk := (p1 k (by omega)).1
    have gg : ∀ b, b ≠ 1 → τ (33 + pi k) b = σ (33 + pi k) b := fun b hb => ag _ _ (by omega) (by omega) (by omega) (by omega) (by omega) (by omega)
    have gm : ∀ a b, 71 ≤ a → a ≤ 77 → a ≠ 72 → τ a b = σ a b := fun a b z1 z2 z3 => ag _ _ (by omega) (by omega) (by omega) (by omega) (by omega) (by omega)
    unfold tkEq
    rw [gg 0 (by omega), gg 2 (by omega), gg 3 (by omega), gg 4 (by omega), gg 5 (by omega), gg 6 (by omega), gm 71 k (by omega) (by omega) (by omega), gm 73 k (by omega) (by omega) (by omega), gm 74 k (by omega) (by omega) (by omega), gm 75 k (by omega) (by omega) (by omega), gm 76 k (by omega) (by omega) (by omega), gm 77 k (by omega) (by omega) (by omega)]
    refine ⟨g0, ?_, g2, g3, g4, g5, g6⟩
    by_cases hki : k = i
    · rw [hki, ht1, h72]
    · have hpp : pi k ≠ pi i := fun e => hki (p2 k i (by omega) (by omega) e)
      rw [ag (33 + pi k) 1 (by omega) (by omega) (by omega) (by omega) (by omega) (by omega), ag 72 k (by omega) (by omega) (by omega) (by omega) (by omega) (by omega)]
      exact g1
  · obtain ⟨z1, z2, z3, z4, z5, z6, z7, z8⟩ := m1 k hk
    rw [ag 68 k (by omega) (by omega) (by omega) (by omega) (by omega) (by omega), ag 69 k (by omega) (by omega) (by omega) (by omega) (by omega) (by omega), ag 70 k (by omega) (by omega) (by omega) (by omega) (by omega) (by omega)]
    exact ⟨(hN66 k hk).1, (hN67 k hk).1, z3, z4, z5, z6, z7, z8⟩
  · have e1 := ag 63 1 (by omega) (by omega) (by omega) (by omega) (by omega) (by omega)
    have e2 := ag 63 2 (by omega) (by omega) (by omega) (by omega) (by omega) (by omega)
    have e3 := ag 63 3 (by omega) (by omega) (by omega) (by omega) (by omega) (by omega)
    unfold mCon
    rw [e1, e2, e3, sumN_congr (f := fun i => N (τ 66 i) + N (τ 67 i)) (g := fun i => N (σ 66 i) + N (σ 67 i)) (n := 10)]
    · exact m2
    · intro k hk
      rw [(hN66 k hk).2, (hN67 k hk).2]
      by_cases k1 : k = j
      · rw [if_pos k1, if_pos k1]; rw [← k1] at hm; omega
      · rw [if_neg k1, if_neg k1]
        by_cases k2 : k = f
        · rw [if_pos k2, if_pos k2]; rw [← k2] at hmf; omega
        · rw [if_neg k2, if_neg k2]
  · obtain ⟨z1, z2, z3, z4, z5, z6, z7, z8⟩ := m3 k hk
    rw [e71, e73, e74, ag 63 19 (by omega) (by omega) (by omega) (by omega) (by omega) (by omega)]
    by_cases hki : k = i
    · rw [hki] at z1 z2 z5 z6 z7 z8 ⊢
      rw [h72]
      exact ⟨z1, z2, hyn, by omega, z5, z6, z7, z8⟩
    · rw [ag 72 k (by omega) (by omega) (by omega) (by omega) (by omega) (by omega)]
      exact ⟨z1, z2, z3, z4, z5, z6, z7, z8⟩
  · rw [e71]; exact m4 a b hab hb
  · have hh := sumN_upd (f := fun i => if N (σ 72 i) = s then N (σ 73 i) else 0) (g := fun i => if N (τ 72 i) = s then N (τ 73 i) else 0) hi (fun k hk hki => by
      rw [e73, ag 72 k (by omega) (by omega) (by omega) (by omega) (by omega) (by omega)])
    have h5 := m5 s hs10
    simp only [h72, e73, ← hf, ← hj] at hh h5 ⊢
    rw [(hN67 s hs10).2]
    by_cases k1 : s = j
    · rw [if_pos k1]
      rw [if_neg (show ¬ f = s by omega), if_pos k1.symm] at hh
      omega
    · rw [if_neg k1]
      rw [if_neg (show ¬ j = s by omega)] at hh
      by_cases k2 : s = f
      · rw [if_pos k2]
        rw [if_pos k2.symm] at hh
        omega
      · rw [if_neg k2]
        rw [if_neg (show ¬ f = s by omega)] at hh
        omega
