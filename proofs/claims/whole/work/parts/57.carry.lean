/-! carry -/
theorem inv_move {c : Nat} {σ τ : ST} (h : Inv c σ) (ag : ∀ a b, ¬ (a = 0 ∧ b = 0) → ¬ (a = 63 ∧ b ≤ 1) → ¬ (23 ≤ a ∧ a < 33 ∧ b = 2) → a ≠ 66 → τ a b = σ a b) (h1 : τ 0 0 = τ 63 1) (h2 : nn (τ 63 1)) (h3 : ∀ i, i < 10 → τ (23 + i) 2 = τ 66 i + σ 67 i) (h4 : ∀ i, i < 10 → nn (τ 66 i)) (h5 : N (τ 63 1) + sumN (fun i => N (τ 66 i) + N (σ 67 i)) 10 = N (σ 63 1) + sumN (fun i => N (σ 66 i) + N (σ 67 i)) 10) : Inv (c + 1) τ := by
  obtain ⟨n, t, hs, hst, htk, hmo, hru, htp, has⟩ := h
  obtain ⟨a1, a2, a3, a4, a5, a6, ⟨e, ee, a7a, a7b⟩, b0, b1, b2, b3, b4, b5, b6, b7, b8, b9⟩ := id hs
  have g : ∀ a b, ¬ (a = 0 ∧ b = 0) → ¬ (a = 63 ∧ b ≤ 1) → ¬ (23 ≤ a ∧ a < 33 ∧ b = 2) → a ≠ 66 → τ a b = σ a b := ag
  have hr67 : τ 67 = σ 67 := funext fun b => g _ _ (by omega) (by omega) (by omega) (by omega)
  refine ⟨n, t, ⟨a1, a2, ?_, ?_, ?_, ?_, ⟨e, by omega, ?_, ?_⟩, h1, ?_, ?_, ?_, ?_, ?_, ?_, ?_, ?_, ?_⟩, fun i hi => ?_, fr_tk a2 htk (fun a b hf => g _ _ (by omega) (by omega) (by omega) (by omega)), ⟨fun i hi => ?_, ?_, fr_tks hmo.2.2.1 (fun a b hf => g _ _ (by omega) (by omega) (by omega) (by omega)), fr_inc hmo.2.2.2.1 (fun b => g _ _ (by omega) (by omega) (by omega) (by omega)), fr_hir hmo.2.2.2.2 (fun a b hf => g _ _ (by omega) (by omega) (by omega) (by omega))⟩, fr_ru hru (fun a b hf => g _ _ (by omega) (by omega) (by omega) (by omega)), fr_tp htp (fun a b hf => g _ _ (by omega) (by omega) (by omega) (by omega)), fr_as has (fun a b hf => g _ _ (by omega) (by omega) (by omega) (by omega))⟩
  any_goals (rw [g _ _ (by decide) (by decide) (by decide) (by decide)]; first | assumption | (rw [g _ _ (by decide) (by decide) (by decide) (by decide)]; assumption))
  · obtain ⟨e0, e1, e2, e3, e4, e5, e6⟩ := hst i hi
    rw [h3 i hi, hr67]
    rw [g (23 + i) 0 (by omega) (by omega) (by omega) (by omega), g (23 + i) 1 (by omega) (by omega) (by omega) (by omega), g (23 + i) 3 (by omega) (by omega) (by omega) (by omega), g (23 + i) 4 (by omega) (by omega) (by omega) (by omega), g (23 + i) 5 (by omega) (by omega) (by omega) (by omega), g (23 + i) 6 (by omega) (by omega) (by omega) (by omega), g 64 i (by omega) (by omega) (by omega) (by omega), g 65 i (by omega) (by omega) (by omega) (by omega), g 68 i (by omega) (by omega) (by omega) (by omega), g 69 i (by omega) (by omega) (by omega) (by omega), g 70 i (by omega) (by omega) (by omega) (by omega)]
    exact ⟨e0, e1, rfl, e3, e4, e5, e6⟩
  · obtain ⟨q1, q2, q3, q4, q5, q6, q7, q8⟩ := hmo.1 i hi
    rw [hr67, g 68 i (by omega) (by omega) (by omega) (by omega), g 69 i (by omega) (by omega) (by omega) (by omega), g 70 i (by omega) (by omega) (by omega) (by omega)]
    exact ⟨h4 i hi, q2, q3, q4, q5, q6, q7, q8⟩
  · obtain ⟨q1, q2, q3, q4⟩ := hmo.2.1
    refine ⟨h2, by rw [g 63 2 (by decide) (by decide) (by decide) (by decide)]; exact q2, by rw [g 63 3 (by decide) (by decide) (by decide) (by decide)]; exact q3, ?_⟩
    rw [hr67, g 63 2 (by decide) (by decide) (by decide) (by decide), g 63 3 (by decide) (by decide) (by decide) (by decide)]
    omega
theorem add_neg' (a m : Int32) : a + -m = a - m := (Int32.sub_eq_add_neg a m).symm
theorem mv1 (f h m : Int32) : f + h + -m = f - m + h := by
  rw [Int32.sub_eq_add_neg, Int32.add_assoc, Int32.add_comm h, ← Int32.add_assoc]
theorem mv2 (f h m : Int32) : f + h + m = f + m + h := by
  rw [Int32.add_assoc, Int32.add_comm h, ← Int32.add_assoc]
theorem R8_pl {s : ST} {n : Nat} (hn : n ≤ 10) (h : s 0 7 = nI n) {x : Int32} {Q : Int32 → ST → Prop} (h1 : (x = (-1000000) ∨ (vp_in x n ∧ vp_in x 10)) → Q 1 s) (h0 : ¬ (x = (-1000000) ∨ vp_in x n) → Q 0 s) : w_X8_isPlace s x Q := by
  refine ⟨fun e => h1 (Or.inl e), fun e => R8_is hn h (fun a b => tt1 (h1 (Or.inr ⟨a, b⟩))) (fun a => tt0 (h0 (by rintro (z | z); exact e z; exact a z)))⟩
theorem none_ne {x : Int32} {n : Nat} (h : vp_in x n) : ¬ x = (-1000000) := by
  rintro rfl
  rw [vp_in_iff] at h
  exact absurd h.1 (by decide)
theorem N_ne {x y : Int32} {n : Nat} (hx : vp_in x n) (hy : vp_in y n) (h : ¬ x = y) : N x ≠ N y := by
  rw [vp_in_iff] at hx hy
  intro e
  apply h
  apply Int32.toInt_inj.mp
  rw [← N_int hx.1, ← N_int hy.1, e]
/-- the reference's carry behind its tests -/
theorem m_carry {σ s1 : ST} {n : Nat} (hn : n ≤ 10) (h10 : s1 63 10 = nI n) {x y z : Int32} {Q : Int32 → ST → Prop} (hx : x = (-1000000) ∨ (vp_in x n ∧ vp_in x 10)) (hy : y = (-1000000) ∨ (vp_in y n ∧ vp_in y 10)) (hxy : ¬ x = y) (hz : 0 ≤ z.toInt ∧ z.toInt ≤ 9000) (h : w_X9_carry_J72 Q s1 x y z (if x = (-1000000) then s1 63 1 else s1 66 x.toNatClampNeg)) : ((x = (-1000000) → (w_X9_carry_J19 Q s1 x y z)) ∧ (¬ (x = (-1000000)) → (w_X9_isStretch s1 x (fun r4 s9 => ((r4 = 0 → (Q (-1000001) s9)) ∧ (¬ (r4 = 0) → (w_X9_carry_J19 Q s9 x y z))))))) := by
  have h33 : w_X9_carry_J33 Q s1 x y z := by
    refine ⟨fun e => absurd e hxy, fun _ => R9_in (fun _ => tf1 ?_) (fun w => absurd hz w)⟩
    by_cases e : x = (-1000000)
    · rw [if_pos e] at h
      exact ⟨fun w => absurd e w, fun _ => h⟩
    · rw [if_neg e] at h
      rcases hx with hx | hx
      · exact absurd hx e
      · exact ⟨fun _ => ⟨hx.2, h⟩, fun w => absurd w e⟩
  have h19 : w_X9_carry_J19 Q s1 x y z := by
    refine ⟨fun _ => h33, fun e => R9_is hn h10 (fun _ _ => tt1 h33) (fun w => ?_)⟩
    rcases hy with hy | hy
    · exact absurd hy e
    · exact absurd hy.1 w
  refine ⟨fun _ => h19, fun e => R9_is hn h10 (fun _ _ => tt1 h19) (fun w => ?_)⟩
  rcases hx with hx | hx
  · exact absurd hx e
  · exact absurd hx.1 w
theorem st_carry {c : Nat} {σ : ST} {Q : Int32 → Int32 → ST → Prop} (h : Inv c σ) (hQ : ∀ r s, Inv (c + 1) s → Q r r s) (x y z : Int32) : w_X8_carry σ x y z (fun r1 s1 => w_X9_carry s1 x y z (fun r2 s2 => Q r1 r2 s2)) := by
  have hh := h
  obtain ⟨n, t, hs, hst, htk, hmo, hru, htp, has⟩ := h
  obtain ⟨a1, a2, a3, a4, a5, a6, a7, b0, b1, b2, b3, b4, b5⟩ := id hs
  have bad : ¬ ((x = (-1000000) ∨ vp_in x n) ∧ (y = (-1000000) ∨ vp_in y n) ∧ ¬ x = y ∧ (0 ≤ z.toInt ∧ z.toInt ≤ 9000)) → w_X9_carry σ x y z (fun r2 s2 => Q (-1000001) r2 s2) := by
    intro hb s1 e1
    obtain ⟨hI, hag⟩ := th hh e1
    have h10 : s1 63 10 = nI n := by rw [hag 63 10 (by decide)]; exact a4
    have h33 : (x = (-1000000) ∨ vp_in x n) → (y = (-1000000) ∨ vp_in y n) → w_X9_carry_J33 (fun r2 s2 => Q (-1000001) r2 s2) s1 x y z := fun px py => ⟨fun _ => hQ _ _ hI, fun e => R9_in (fun hz => absurd ⟨px, py, e, hz⟩ hb) (fun _ => tf0 (hQ _ _ hI))⟩
    have h19 : (x = (-1000000) ∨ vp_in x n) → w_X9_carry_J19 (fun r2 s2 => Q (-1000001) r2 s2) s1 x y z := fun px => ⟨fun e => h33 px (Or.inl e), fun _ => R9_is a1 h10 (fun w _ => tt1 (h33 px (Or.inr w))) (fun _ => tt0 (hQ _ _ hI))⟩
    exact ⟨fun e => h19 (Or.inl e), fun _ => R9_is a1 h10 (fun w _ => tt1 (h19 (Or.inr w))) (fun _ => tt0 (hQ _ _ hI))⟩
  refine R8_pl a1 a3 (fun hx => tt1 (R8_pl a1 a3 (fun hy => tt1 ⟨fun e => bad (fun w => w.2.2.1 e), fun hxy => R8_w (fun hz => tf1 ?_) (fun hz => tf0 (bad (fun w => hz w.2.2.2)))⟩) (fun hy => tt0 (bad (fun w => hy w.2.1))))) (fun hx => tt0 (bad (fun w => hx w.1)))
  have hzn : nn z := nn_of hz.1
  have hz9 : N z ≤ 9000 := by have := N_int hz.1; rw [k32_9000] at hz; omega
  obtain ⟨m1, m2, m3, m4, m5⟩ := id hmo
  obtain ⟨q1, q2, q3, q4⟩ := id m2
  have hfr : ∀ i, i < 10 → σ (23 + i) 2 - σ (23 + i) 3 = σ 66 i := fun i hi => by
    obtain ⟨e0, e1, e2, e3, -⟩ := hst i hi
    rw [e2, e3, add_sub_r]
  have hf9 : ∀ i, i < 10 → N (σ 66 i) + N (σ 67 i) ≤ sumN (fun i => N (σ 66 i) + N (σ 67 i)) 10 := fun i hi => sumN_le (f := fun i => N (σ 66 i) + N (σ 67 i)) hi
  have stt : ∀ T : Int32, T = (if x = (-1000000) then σ 63 1 else σ 66 x.toNatClampNeg) → ¬ z ≤ T → w_X9_carry σ x y z (fun r2 s2 => Q (-1000002) r2 s2) := by
    intro T hT hzT s1 e1
    obtain ⟨hI, hag⟩ := th hh e1
    refine m_carry (σ := σ) a1 (by rw [hag 63 10 (by decide)]; exact a4) hx hy hxy hz ?_
    rw [hag 63 1 (by decide), hag 66 _ (by simp), ← hT]
    exact ⟨fun w => absurd w hzT, fun _ => hQ _ _ hI⟩
  by_cases ex : x = (-1000000)
  · have hy' : vp_in y 10 := by
      rcases hy with w | w
      · exact absurd (ex.trans w.symm) hxy
      · exact w.2
    have ey : ¬ y = (-1000000) := none_ne hy'
    have hj : y.toNatClampNeg < 10 := in_lt hy'
    refine ⟨fun w => absurd ex w, fun _ => ⟨fun hle => ?_, fun w => stt _ (by rw [if_pos ex]; exact b0) w⟩⟩
    have hle' : N z ≤ N (σ 63 1) := by rw [b0] at hle; exact (le_N hzn q1).mp hle
    refine ⟨fun w => absurd ex w, fun _ s5 e5 => ⟨fun _ => ⟨hy', fun k1 ek1 s6 e6 => ⟨hy', fun k2 ek2 => ?_⟩⟩, fun w => absurd w ey⟩⟩
    intro s1 e1
    refine m_carry (σ := σ) a1 ?_ hx hy hxy hz ?_
    · subst e1 e6 e5 ek1; simp only [up]; repeat rw [if_neg (by omega)]
      exact a4
    rw [if_pos ex]
    refine ⟨fun _ => ⟨fun w => absurd ex w, fun _ s7 e7 => ⟨fun _ => ⟨hy', hy', fun s4 e4 => ⟨hy', hy', ?_⟩⟩, fun w => absurd w ey⟩⟩, fun w => absurd ?_ w⟩
    rotate_left
    · subst e1 e6 e5 ek1; simp only [up]; repeat rw [if_neg (by omega)]
      rw [← b0]; exact hle
    generalize y.toNatClampNeg = j at *
    subst e4 e7 e1 e6 e5 ek1 ek2
    obtain ⟨w1, w2⟩ := nn_sub q1 hzn hle'
    obtain ⟨v1, v2⟩ := nn_add (m1 j hj).1 hzn (by have := hf9 j hj; omega)
    refine leaf hQ (inv_move hh ?_ ?_ ?_ ?_ ?_ ?_) ?_
    · intro a b g1 g2 g3 g4; simp only [up]; repeat rw [if_neg (by omega)]
    · simp only [up, true_and, and_true, if_true]; repeat (first | rw [if_neg (by omega)] | rw [if_pos (by omega)])
      rw [b0, add_neg']
    · simp only [up, true_and, and_true, if_true]; repeat (first | rw [if_neg (by omega)] | rw [if_pos (by omega)])
      exact w1
    · intro i hi
      by_cases eij : i = j
      · subst eij
        simp only [up, true_and, and_true, if_true]; repeat (first | rw [if_neg (by omega)] | rw [if_pos (by omega)])
        rw [(hst i hi).2.2.1, mv2]
      · simp only [up, true_and, and_true, if_true]; repeat (first | rw [if_neg (by omega)] | rw [if_pos (by omega)])
        exact (hst i hi).2.2.1
    · intro i hi
      by_cases eij : i = j
      · subst eij
        simp only [up, true_and, and_true, if_true]; repeat (first | rw [if_neg (by omega)] | rw [if_pos (by omega)])
        exact v1
      · simp only [up, true_and, and_true, if_true]; repeat (first | rw [if_neg (by omega)] | rw [if_pos (by omega)])
        exact (m1 i hi).1
    · have := sumN_upd (f := fun i => N (σ 66 i) + N (σ 67 i)) (g := fun i => N (if i = j then σ 66 j + z else σ 66 i) + N (σ 67 i)) hj (fun i _ hij => by simp [hij])
      simp only [if_true] at this
      simp only [up, true_and]
      simp only [show ¬ (66 : Nat) = 63 by decide, show ¬ (66 : Nat) = 0 by decide, show ¬ (63 : Nat) = 66 by decide, show ¬ (66 : Nat) = 23 + j by omega, show ¬ (63 : Nat) = 23 + j by omega, show ¬ (63 : Nat) = 0 by decide, false_and, if_false, if_true, and_self, show ¬ (1 : Nat) = 0 by decide, and_false]
      omega
    · simp only [up, true_and, and_true, if_true]; repeat (first | rw [if_neg (by omega)] | rw [if_pos (by omega)])
      rw [(hst j hj).2.2.1, mv2]
  · have hx' : vp_in x 10 := by
      rcases hx with w | w
      · exact absurd w ex
      · exact w.2
    have hi0 : x.toNatClampNeg < 10 := in_lt hx'
    refine ⟨fun _ => ⟨hx', fun k0 ek0 => ⟨fun hle => ?_, fun w => stt _ (by rw [if_neg ex, ek0]; exact hfr _ hi0) w⟩⟩, fun w => absurd w ex⟩
    have hle0 : z ≤ σ 66 x.toNatClampNeg := by rw [ek0, hfr _ hi0] at hle; exact hle
    have hle' : N z ≤ N (σ 66 x.toNatClampNeg) := (le_N hzn (m1 _ hi0).1).mp hle0
    refine ⟨fun _ => ⟨hx', fun k1 ek1 s5 e5 => ⟨hx', fun k2 ek2 => ?_⟩⟩, fun w => absurd w ex⟩
    by_cases ey : y = (-1000000)
    · refine ⟨fun w => absurd ey w, fun _ s6 e6 => ?_⟩
      intro s1 e1
      refine m_carry (σ := σ) a1 ?_ hx hy hxy hz ?_
      · subst e1 e6 e5 ek1; simp only [up]; repeat rw [if_neg (by omega)]
        exact a4
      rw [if_neg ex]
      refine ⟨fun _ => ⟨fun _ => ⟨hx', hx', fun s7 e7 => ⟨fun w => absurd ey w, fun _ s4 e4 => ?_⟩⟩, fun w => absurd w ex⟩, fun w => absurd ?_ w⟩
      rotate_left
      · subst e1 e6 e5 ek1; simp only [up]; repeat rw [if_neg (by omega)]
        exact hle0
      clear hle
      generalize x.toNatClampNeg = j at *
      subst e4 e7 e1 e6 e5 ek1 ek2
      obtain ⟨w1, w2⟩ := nn_add q1 hzn (by have := hf9 j hi0; omega)
      obtain ⟨v1, v2⟩ := nn_sub (m1 j hi0).1 hzn hle'
      refine leaf hQ (inv_move hh ?_ ?_ ?_ ?_ ?_ ?_) ?_
      · intro a b g1 g2 g3 g4; simp only [up]; repeat rw [if_neg (by omega)]
      · simp only [up, true_and, and_true, if_true]; repeat (first | rw [if_neg (by omega)] | rw [if_pos (by omega)])
        rw [b0]
      · simp only [up, true_and, and_true, if_true]; repeat (first | rw [if_neg (by omega)] | rw [if_pos (by omega)])
        exact w1
      · intro i hi
        by_cases eij : i = j
        · subst eij
          simp only [up, true_and, and_true, if_true]; repeat (first | rw [if_neg (by omega)] | rw [if_pos (by omega)])
          rw [(hst i hi).2.2.1, mv1]
        · simp only [up, true_and, and_true, if_true]; repeat (first | rw [if_neg (by omega)] | rw [if_pos (by omega)])
          exact (hst i hi).2.2.1
      · intro i hi
        by_cases eij : i = j
        · subst eij
          simp only [up, true_and, and_true, if_true]; repeat (first | rw [if_neg (by omega)] | rw [if_pos (by omega)])
          exact v1
        · simp only [up, true_and, and_true, if_true]; repeat (first | rw [if_neg (by omega)] | rw [if_pos (by omega)])
          exact (m1 i hi).1
      · have := sumN_upd (f := fun i => N (σ 66 i) + N (σ 67 i)) (g := fun i => N (if i = j then σ 66 j - z else σ 66 i) + N (σ 67 i)) hi0 (fun i _ hij => by simp [hij])
        simp only [if_true] at this
        simp only [up, true_and]
        simp only [show ¬ (66 : Nat) = 63 by decide, show ¬ (66 : Nat) = 0 by decide, show ¬ (63 : Nat) = 66 by decide, show ¬ (66 : Nat) = 23 + j by omega, show ¬ (63 : Nat) = 23 + j by omega, show ¬ (63 : Nat) = 0 by decide, false_and, if_false, if_true, and_self, show ¬ (1 : Nat) = 0 by decide, and_false]
        omega
      · simp only [up, true_and, and_true, if_true]; repeat (first | rw [if_neg (by omega)] | rw [if_pos (by omega)])
        rw [b0]
    · have hy' : vp_in y 10 := by
        rcases hy with w | w
        · exact absurd w ey
        · exact w.2
      have hj : y.toNatClampNeg < 10 := in_lt hy'
      have hne : x.toNatClampNeg ≠ y.toNatClampNeg := N_ne hx' hy' hxy
      refine ⟨fun _ => ⟨hy', fun k3 ek3 s6 e6 => ⟨hy', fun k4 ek4 => ?_⟩⟩, fun w => absurd w ey⟩
      intro s1 e1
      refine m_carry (σ := σ) a1 ?_ hx hy hxy hz ?_
      · subst e1 e6 e5 ek1 ek3; simp only [up]; repeat rw [if_neg (by omega)]
        exact a4
      rw [if_neg ex]
      refine ⟨fun _ => ⟨fun _ => ⟨hx', hx', fun s7 e7 => ⟨fun _ => ⟨hy', hy', fun s4 e4 => ⟨hy', hy', ?_⟩⟩, fun w => absurd w ey⟩⟩, fun w => absurd w ex⟩, fun w => absurd ?_ w⟩
      rotate_left
      · subst e1 e6 e5 ek1 ek3; simp only [up]; repeat rw [if_neg (by omega)]
        exact hle0
      clear hle
      generalize x.toNatClampNeg = k at *
      generalize y.toNatClampNeg = j at *
      subst e4 e7 e1 e6 e5 ek1 ek2 ek3 ek4
      obtain ⟨w1, w2⟩ := nn_add (m1 j hj).1 hzn (by have := hf9 j hj; omega)
      obtain ⟨v1, v2⟩ := nn_sub (m1 k hi0).1 hzn hle'
      refine leaf hQ (inv_move hh ?_ ?_ ?_ ?_ ?_ ?_) ?_
      · intro a b g1 g2 g3 g4; simp only [up]; repeat rw [if_neg (by omega)]
      · simp only [up, true_and, and_true, if_true]; repeat (first | rw [if_neg (by omega)] | rw [if_pos (by omega)])
        exact b0
      · simp only [up, true_and, and_true, if_true]; repeat (first | rw [if_neg (by omega)] | rw [if_pos (by omega)])
        exact q1
      · intro i hi
        by_cases eik : i = k
        · subst eik
          simp only [up, true_and, and_true, if_true]; repeat (first | rw [if_neg (by omega)] | rw [if_pos (by omega)])
          rw [(hst i hi).2.2.1, mv1]
        · by_cases eij : i = j
          · subst eij
            simp only [up, true_and, and_true, if_true]; repeat (first | rw [if_neg (by omega)] | rw [if_pos (by omega)])
            rw [(hst i hi).2.2.1, mv2]
          · simp only [up, true_and, and_true, if_true]; repeat (first | rw [if_neg (by omega)] | rw [if_pos (by omega)])
            exact (hst i hi).2.2.1
      · intro i hi
        by_cases eik : i = k
        · subst eik
          simp only [up, true_and, and_true, if_true]; repeat (first | rw [if_neg (by omega)] | rw [if_pos (by omega)])
          exact v1
        · by_cases eij : i = j
          · subst eij
            simp only [up, true_and, and_true, if_true]; repeat (first | rw [if_neg (by omega)] | rw [if_pos (by omega)])
            exact w1
          · simp only [up, true_and, and_true, if_true]; repeat (first | rw [if_neg (by omega)] | rw [if_pos (by omega)])
            exact (m1 i hi).1
      · have t1 := sumN_upd (f := fun i => N (σ 66 i) + N (σ 67 i)) (g := fun i => N (if i = k then σ 66 k - z else σ 66 i) + N (σ 67 i)) hi0 (fun i _ hij => by simp [hij])
        have t2 := sumN_upd (f := fun i => N (if i = k then σ 66 k - z else σ 66 i) + N (σ 67 i)) (g := fun i => N (if i = j then σ 66 j + z else if i = k then σ 66 k - z else σ 66 i) + N (σ 67 i)) hj (fun i _ hij => by simp [hij])
        simp only [if_true, if_neg (Ne.symm hne)] at t1 t2
        simp only [up, true_and]
        simp only [show ¬ (66 : Nat) = 63 by decide, show ¬ (66 : Nat) = 0 by decide, show ¬ (63 : Nat) = 66 by decide, show ¬ (66 : Nat) = 23 + j by omega, show ¬ (63 : Nat) = 23 + j by omega, show ¬ (66 : Nat) = 23 + k by omega, show ¬ (63 : Nat) = 23 + k by omega, show ¬ (63 : Nat) = 0 by decide, false_and, if_false, if_true, and_self, show ¬ (1 : Nat) = 0 by decide, and_false, if_neg (Ne.symm hne)]
        omega
      · simp only [up, true_and, and_true, if_true]; repeat (first | rw [if_neg (by omega)] | rw [if_pos (by omega)])
        rw [(hst j hj).2.2.1, mv2]
