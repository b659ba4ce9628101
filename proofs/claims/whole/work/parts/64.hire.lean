/-! hire -/
theorem inv_hire {c n t i e : Nat} {σ τ : ST} {x y z : Int32} (hc : c ≤ 1000) (hs : ISc n t c σ) (hst : ISt σ) (hmo : IMo n t σ) (hru : IRu σ) (htp : ITp σ) (has : IAs σ) {pi : Nat → Nat} (p1 : ∀ i, i < 30 → pi i < 30 ∧ σ 3 i = nI (pi i)) (p2 : ∀ i j, i < 30 → j < 30 → pi i = pi j → i = j) (p3 : ∀ i, i < t → tkEq σ (pi i) i) (ht : t < 30) (hec : e ≤ c) (he1 : σ 63 19 = nI e) (hi : i = N x) (hin : i < n) (hxn : nn x) (hyn : nn y) (hy1 : 1 ≤ N y) (hy2 : N y ≤ 100) (hzn : nn z) (hz1 : 1 ≤ N z) (hz2 : N z ≤ 12) (hm : N y ≤ N (σ 66 i))
    (ag : ∀ a b, ¬ (a = 63 ∧ (b = 0 ∨ b = 8 ∨ b = 18 ∨ b = 19)) → ¬ (a = 23 + i ∧ b = 3) → ¬ (a = 33 + pi t) → ¬ (a = 2 ∧ (b = 1 ∨ b = 2 ∨ b = 3)) → ¬ (71 ≤ a ∧ a ≤ 77 ∧ b = t) → ¬ (a = 66 ∧ b = i) → ¬ (a = 67 ∧ b = i) → τ a b = σ a b)
    (v1 : τ 2 1 = nI (t + 1)) (v2 : τ 63 18 = nI (t + 1)) (v3 : τ 2 2 = nI (e + 1)) (v4 : τ 63 19 = nI (e + 1)) (v5 : τ 2 3 = τ 63 8) (v6 : τ (23 + i) 3 = σ 67 i + y) (v7 : τ 67 i = σ 67 i + y) (v8 : τ 66 i = σ 66 i - y) (v9 : tkEq τ (pi t) t) (w1 : τ 71 t = nI e) (w2 : τ 72 t = x) (w3 : τ 73 t = y) (w4 : τ 74 t = z) : Inv (c + 1) τ := by
  obtain ⟨m1, m2, m3, m4, m5⟩ := id hmo
  obtain ⟨q1, q2, q3, q4⟩ := id m2
  obtain ⟨a1, a2, a3, a4, a5, a6, ⟨e', ee, a7a, a7b⟩, b0, b1, b2, b3, b4, b5, b6, b7, b8, b9⟩ := id hs
  have hi10 : i < 10 := by omega
  have hpt := (p1 t (by omega)).1
  have hf9 : ∀ i, i < 10 → N (σ 66 i) + N (σ 67 i) ≤ sumN (fun i => N (σ 66 i) + N (σ 67 i)) 10 := fun i hi => sumN_le (f := fun i => N (σ 66 i) + N (σ 67 i)) hi
  obtain ⟨n1, n2⟩ := nn_sub (m1 i hi10).1 hyn hm
  obtain ⟨n3, n4⟩ := nn_add (m1 i hi10).2.1 hyn (by have := hf9 i hi10; omega)
  have g63 : ∀ b, b ≠ 0 → b ≠ 8 → b ≠ 18 → b ≠ 19 → τ 63 b = σ 63 b := fun b z1 z2 z3 z4 => ag _ _ (by omega) (by omega) (by omega) (by omega) (by omega) (by omega) (by omega)
  have g0 : ∀ b, τ 0 b = σ 0 b := fun b => ag _ _ (by omega) (by omega) (by omega) (by omega) (by omega) (by omega) (by omega)
  have g24 : τ 2 4 = σ 2 4 := ag _ _ (by omega) (by omega) (by omega) (by omega) (by omega) (by omega) (by omega)
  have gT : ∀ a b, 71 ≤ a → a ≤ 77 → b ≠ t → τ a b = σ a b := fun a b z1 z2 z3 => ag _ _ (by omega) (by omega) (by omega) (by omega) (by omega) (by omega) (by omega)
  have g66 : ∀ k, k ≠ i → τ 66 k = σ 66 k := fun k z => ag _ _ (by omega) (by omega) (by omega) (by omega) (by omega) (by omega) (by omega)
  have g67 : ∀ k, k ≠ i → τ 67 k = σ 67 k := fun k z => ag _ _ (by omega) (by omega) (by omega) (by omega) (by omega) (by omega) (by omega)
  have hN66 : ∀ k, k < 10 → nn (τ 66 k) ∧ N (τ 66 k) = if k = i then N (σ 66 k) - N y else N (σ 66 k) := by
    intro k hk
    by_cases k1 : k = i
    · rw [if_pos k1, k1, v8]; exact ⟨n1, n2⟩
    · rw [if_neg k1, g66 k k1]; exact ⟨(m1 k hk).1, rfl⟩
  have hN67 : ∀ k, k < 10 → nn (τ 67 k) ∧ N (τ 67 k) = if k = i then N (σ 67 k) + N y else N (σ 67 k) := by
    intro k hk
    by_cases k1 : k = i
    · rw [if_pos k1, k1, v7]; exact ⟨n3, n4⟩
    · rw [if_neg k1, g67 k k1]; exact ⟨(m1 k hk).2.1, rfl⟩
  have hE : N (τ 63 19) = e + 1 := by rw [v4]; exact N_nI (by omega)
  have hE0 : N (σ 63 19) = e := by rw [he1]; exact N_nI (by omega)
  refine ⟨n, t + 1, ⟨a1, by omega, by rw [g0]; exact a3, by rw [g63 10 (by omega) (by omega) (by omega) (by omega)]; exact a4, v1, v2, ⟨e + 1, by omega, v3, v4⟩, ?_, ?_, ?_, ?_, ?_, ?_, ?_, ?_, v5, ?_⟩, fun k hk => ?_, ⟨pi, fun k hk => ?_, p2, fun k hk => ?_⟩, ⟨fun k hk => ?_, ?_, fun k hk => ?_, fun a b hab hb => ?_, fun s hs10 => ?_⟩, fr_ru hru (fun a b hf => ag _ _ (by omega) (by omega) (by omega) (by omega) (by omega) (by omega) (by omega)), fr_tp htp (fun a b hf => ag _ _ (by omega) (by omega) (by omega) (by omega) (by omega) (by omega) (by omega)), fr_as has (fun a b hf => ag _ _ (by omega) (by omega) (by omega) (by omega) (by omega) (by omega) (by omega))⟩
  any_goals (rw [g0, g63 _ (by omega) (by omega) (by omega) (by omega)]; assumption)
  · rw [g24, g63 _ (by omega) (by omega) (by omega) (by omega)]; assumption
  · obtain ⟨c0, c1, c2, c3, c4, c5, c6⟩ := hst k hk
    have gg : ∀ b, b ≠ 3 → τ (23 + k) b = σ (23 + k) b := fun b hb => ag _ _ (by omega) (by omega) (by omega) (by omega) (by omega) (by omega) (by omega)
    have gm : ∀ a b, 64 ≤ a → a ≤ 70 → a ≠ 66 → a ≠ 67 → τ a b = σ a b := fun a b z1 z2 z3 z4 => ag _ _ (by omega) (by omega) (by omega) (by omega) (by omega) (by omega) (by omega)
    rw [gg 0 (by omega), gg 1 (by omega), gg 2 (by omega), gg 4 (by omega), gg 5 (by omega), gg 6 (by omega), gm 64 k (by omega) (by omega) (by omega) (by omega), gm 65 k (by omega) (by omega) (by omega) (by omega), gm 68 k (by omega) (by omega) (by omega) (by omega), gm 69 k (by omega) (by omega) (by omega) (by omega), gm 70 k (by omega) (by omega) (by omega) (by omega)]
    by_cases k1 : k = i
    · refine ⟨c0, c1, ?_, ?_, c4, c5, c6⟩
      · rw [c2, k1, v7, v8, mv3]
      · rw [k1, v6, v7]
    · refine ⟨c0, c1, ?_, ?_, c4, c5, c6⟩
      · rw [c2, g66 k k1, g67 k k1]
      · rw [g67 k k1, ag (23 + k) 3 (by omega) (by omega) (by omega) (by omega) (by omega) (by omega) (by omega), c3]
  · rw [ag 3 k (by omega) (by omega) (by omega) (by omega) (by omega) (by omega) (by omega)]; exact p1 k hk
  · by_cases hkt : k = t
    · rw [hkt]; exact v9
    · obtain ⟨c0, c1, c2, c3, c4, c5, c6⟩ := p3 k (by omega)
      have hpk := (p1 k (by omega)).1
      have hpp : pi k ≠ pi t := fun e => hkt (p2 k t (by omega) (by omega) e)
      have gg : ∀ b, τ (33 + pi k) b = σ (33 + pi k) b := fun b => ag _ _ (by omega) (by omega) (by omega) (by omega) (by omega) (by omega) (by omega)
      unfold tkEq
      rw [gg 0, gg 1, gg 2, gg 3, gg 4, gg 5, gg 6, gT 71 k (by omega) (by omega) hkt, gT 72 k (by omega) (by omega) hkt, gT 73 k (by omega) (by omega) hkt, gT 74 k (by omega) (by omega) hkt, gT 75 k (by omega) (by omega) hkt, gT 76 k (by omega) (by omega) hkt, gT 77 k (by omega) (by omega) hkt]
      exact ⟨c0, c1, c2, c3, c4, c5, c6⟩
  · obtain ⟨z1, z2, z3, z4, z5, z6, z7, z8⟩ := m1 k hk
    rw [ag 68 k (by omega) (by omega) (by omega) (by omega) (by omega) (by omega) (by omega), ag 69 k (by omega) (by omega) (by omega) (by omega) (by omega) (by omega) (by omega), ag 70 k (by omega) (by omega) (by omega) (by omega) (by omega) (by omega) (by omega)]
    exact ⟨(hN66 k hk).1, (hN67 k hk).1, z3, z4, z5, z6, z7, z8⟩
  · unfold mCon
    rw [g63 1 (by omega) (by omega) (by omega) (by omega), g63 2 (by omega) (by omega) (by omega) (by omega), g63 3 (by omega) (by omega) (by omega) (by omega), sumN_congr (f := fun i => N (τ 66 i) + N (τ 67 i)) (g := fun i => N (σ 66 i) + N (σ 67 i)) (n := 10)]
    · exact m2
    · intro k hk
      rw [(hN66 k hk).2, (hN67 k hk).2]
      by_cases k1 : k = i
      · rw [if_pos k1, if_pos k1]; rw [← k1] at hm; omega
      · rw [if_neg k1, if_neg k1]
  · rw [hE]
    by_cases hkt : k = t
    · rw [hkt, w1, w2, w3, w4]
      exact ⟨nn_nI (by omega), by rw [N_nI (by omega)]; omega, hxn, by omega, hyn, hy1, hy2, hzn, hz1, hz2⟩
    · obtain ⟨z1, z2, z3, z4, z5, z6, z7, z8⟩ := m3 k (by omega)
      rw [gT 71 k (by omega) (by omega) hkt, gT 72 k (by omega) (by omega) hkt, gT 73 k (by omega) (by omega) hkt, gT 74 k (by omega) (by omega) hkt]
      exact ⟨z1, by omega, z3, z4, z5, z6, z7, z8⟩
  · rw [gT 71 a (by omega) (by omega) (by omega)]
    by_cases hbt : b = t
    · rw [hbt, w1, N_nI (by omega)]
      have := (m3 a (by omega)).2.1
      omega
    · rw [gT 71 b (by omega) (by omega) hbt]
      exact m4 a b hab (by omega)
  · rw [(hN67 s hs10).2]
    have h5 := m5 s hs10
    unfold sumN
    rw [sumN_congr (f := fun i => if N (τ 72 i) = s then N (τ 73 i) else 0) (g := fun i => if N (σ 72 i) = s then N (σ 73 i) else 0) (n := t), ← h5, w2, w3, ← hi]
    · by_cases k1 : s = i
      · rw [if_pos k1, if_pos k1.symm]
      · rw [if_neg k1, if_neg (show ¬ i = s by omega)]; rfl
    · intro k hk
      rw [gT 72 k (by omega) (by omega) (by omega), gT 73 k (by omega) (by omega) (by omega)]
theorem lt30 {t : Nat} (h : t ≤ 30) : (nI t < 30 ↔ t < 30) ∧ (nI t = 30 ↔ t = 30) := by
  constructor
  · rw [Int32.lt_iff_toInt_lt, nI_toInt (by omega), show (30 : Int32).toInt = 30 from rfl]; omega
  · constructor
    · intro e
      have := congrArg Int32.toInt e
      rw [nI_toInt (by omega), show (30 : Int32).toInt = 30 from rfl] at this
      omega
    · rintro rfl; rfl
theorem st_hire {c : Nat} {σ : ST} {Q : Int32 → Int32 → ST → Prop} (hc : c ≤ 1000) (h : Inv c σ) (hQ : ∀ r s, Inv (c + 1) s → Q r r s) (x y z : Int32) : w_X8_hire σ x y z (fun r1 s1 => w_X9_hire s1 x y z (fun r2 s2 => Q r1 r2 s2)) := by
  have hh := h
  obtain ⟨n, t, hs, hst, htk, hmo, hru, htp, has⟩ := h
  obtain ⟨a1, a2, a3, a4, a5, a6, ⟨e, ee, a7a, a7b⟩, b0, b1, b2, b3, b4, b5, b6, b7, b8, b9⟩ := id hs
  obtain ⟨pi, p1, p2, p3⟩ := id htk
  have hfr : ∀ i, i < 10 → σ (23 + i) 2 - σ (23 + i) 3 = σ 66 i := fun i hi => by
    obtain ⟨e0, e1, e2, e3, -⟩ := hst i hi
    rw [e2, e3, add_sub_r]
  have bad : ∀ R : Int32, (¬ (vp_in x n ∧ (1 ≤ y.toInt ∧ y.toInt ≤ 100) ∧ (1 ≤ z.toInt ∧ z.toInt ≤ 12)) → R = (-1000001)) → ((vp_in x n ∧ (1 ≤ y.toInt ∧ y.toInt ≤ 100) ∧ (1 ≤ z.toInt ∧ z.toInt ≤ 12)) → (¬ σ 63 6 ≤ σ 63 5 → R = (-1000002)) ∧ (σ 63 6 ≤ σ 63 5 → R = (-1000003) ∧ (t = 30 ∨ ¬ y ≤ σ 66 x.toNatClampNeg))) → w_X9_hire σ x y z (fun r2 s2 => Q R r2 s2) := by
    intro R g1 g2 s1 e1
    obtain ⟨hI, hag⟩ := th hh e1
    refine R9_is a1 (by rw [hag 63 10 (by decide)]; exact a4) (fun hx hx10 => tt1 (R9_in (fun hy => tt1 (R9_in (fun hz => tf1 ?_) (fun hz => tf0 (leaf hQ hI (g1 (fun w => hz w.2.2)))))) (fun hy => tt0 (leaf hQ hI (g1 (fun w => hy w.2.1)))))) (fun hx => tt0 (leaf hQ hI (g1 (fun w => hx w.1))))
    obtain ⟨g3, g4⟩ := g2 ⟨hx, hy, hz⟩
    rw [hag 63 6 (by decide), hag 63 5 (by decide), hag 63 18 (by decide), a6, hag 66 _ (by simp)]
    refine ⟨fun hle => ⟨fun _ => leaf hQ hI (g4 hle).1, fun ht => ⟨hx10, fun w => ?_, fun _ => leaf hQ hI (g4 hle).1⟩⟩, fun hle => leaf hQ hI (g3 hle)⟩
    rcases (g4 hle).2 with w2 | w2
    · exact absurd ((lt30 a2).2.mpr w2) ht
    · exact absurd w w2
  refine R8_is a1 a3 (fun hx hx10 => tt1 (R8_w (fun hy => tt1 (R8_w (fun hz => tf1 ?_) (fun hz => tf0 (bad _ (fun _ => rfl) (fun w => absurd w.2.2 hz))))) (fun hy => tt0 (bad _ (fun _ => rfl) (fun w => absurd w.2.1 hy))))) (fun hx => tt0 (bad _ (fun _ => rfl) (fun w => absurd w.1 hx)))
  rw [b6, b4]
  refine ⟨fun hle => ⟨hx10, fun k1 ek1 => ?_⟩, fun hle => bad _ (fun w => absurd ⟨hx, hy, hz⟩ w) (fun _ => ⟨fun _ => rfl, fun w => absurd w hle⟩)⟩
  have hi10 : x.toNatClampNeg < 10 := in_lt hx10
  unfold w_X7_isFull
  rw [a5, (lt30 a2).1]
  refine ⟨fun ht => tf0 ?_, fun ht => tf1 (bad _ (fun w => absurd ⟨hx, hy, hz⟩ w) (fun _ => ⟨fun w => absurd hle w, fun _ => ⟨rfl, Or.inl (by omega)⟩⟩))⟩
  unfold w_X4_free
  rw [ek1, hfr _ hi10]
  refine ⟨fun hyle => ?_, fun hyle => bad _ (fun w => absurd ⟨hx, hy, hz⟩ w) (fun _ => ⟨fun w => absurd hle w, fun _ => ⟨rfl, Or.inr hyle⟩⟩)⟩
  have hin : x.toNatClampNeg < n := in_lt hx
  have hxn : nn x := nn_of (by rw [vp_in_iff] at hx; exact hx.1)
  have hyn : nn y := nn_of (by rw [k32_1] at hy; omega)
  have hzn : nn z := nn_of (by rw [k32_1] at hz; omega)
  have hyN := nn_int hyn
  have hzN := nn_int hzn
  have ky := hy
  have kz := hz
  rw [k32_1, k32_100] at ky
  rw [k32_1, k32_12] at kz
  obtain ⟨m1, m2, m3, m4, m5⟩ := id hmo
  obtain ⟨pt1, pt2⟩ := p1 t ht
  have ht30 : vp_in (nI t) 30 := vp_in_nI (by omega) (by decide)
  have gi := hst _ hi10
  generalize hie : x.toNatClampNeg = i at *
  intro s6 e6
  have h21 : s6 2 1 = nI t := by rw [e6, up_ne _ _ (by omega)]; exact a5
  have h3t : s6 3 t = nI (pi t) := by rw [e6, up_ne _ _ (by omega)]; exact pt2
  have h22 : s6 2 2 = nI e := by rw [e6, up_ne _ _ (by omega)]; exact a7a
  unfold w_X7_open
  rw [h21, nI_clamp (show t < 2 ^ 31 by omega), h3t, nI_clamp (show pi t < 2 ^ 31 by omega), h22]
  refine ⟨ht30, pt1, fun k2 ek2 r1 er1 r2 er2 r3 er3 => ⟨k2, rfl, by rw [ek2]; exact okT pt1, fun s8 e8 s9 e9 s10 e10 s11 e11 s12 e12 s13 e13 s14 e14 => ?_⟩⟩
  have x21 : r1 2 1 = nI t := by rw [er1, up_ne _ _ (by omega)]; exact h21
  have x22 : r2 2 2 = nI e := by rw [er2, up_ne _ _ (by omega), er1, up_ne _ _ (by omega)]; exact h22
  rw [x21, nI_1] at er2
  rw [x22, nI_1] at er3
  have fr3 : ∀ a b, ¬ (a = 23 + i ∧ b = 3) → ¬ (a = k2) → ¬ (a = 2 ∧ (b = 1 ∨ b = 2)) → r3 a b = σ a b := fun a b z1 z2 z3 => by
    rw [er3, up_ne _ _ (by omega), er2, up_ne _ _ (by omega), er1, up_ne _ _ (by omega), e6, up_ne _ _ (by omega)]
  have y1 : s8 (23 + i) 1 = σ 65 i := by rw [e8, up_ne _ _ (by omega), fr3 _ _ (by omega) (by omega) (by omega)]; exact gi.2.1
  have y2 : s11 0 3 = σ 63 4 := by rw [e11, up_ne _ _ (by omega), e10, up_ne _ _ (by omega), e9, up_ne _ _ (by omega), e8, up_ne _ _ (by omega), fr3 _ _ (by omega) (by omega) (by omega)]; exact b3
  have y3 : s12 0 3 = σ 63 4 := by rw [e12, up_ne _ _ (by omega)]; exact y2
  rw [y1] at e9
  rw [y2] at e12
  rw [y3] at e13
  have y4 : s13 k2 6 = σ 63 4 * y * z := by rw [e13, up_self]
  have fr13 : ∀ a b, ¬ (a = 23 + i ∧ b = 3) → ¬ (a = k2) → ¬ (a = 2 ∧ (b = 1 ∨ b = 2)) → s13 a b = σ a b := fun a b z1 z2 z3 => by
    rw [e13, up_ne _ _ (by omega), e12, up_ne _ _ (by omega), e11, up_ne _ _ (by omega), e10, up_ne _ _ (by omega), e9, up_ne _ _ (by omega), e8, up_ne _ _ (by omega), fr3 a b z1 z2 z3]
  have y5 : s13 2 3 = σ 63 8 := by rw [fr13 2 3 (by omega) (by omega) (by omega)]; exact b8
  rw [y4, y5] at e14
  have fr14 : ∀ a b, ¬ (a = 23 + i ∧ b = 3) → ¬ (a = k2) → ¬ (a = 2 ∧ (b = 1 ∨ b = 2 ∨ b = 3)) → s14 a b = σ a b := fun a b z1 z2 z3 => by
    rw [e14, up_ne _ _ (by omega), fr13 a b z1 z2 (by omega)]
  have c3 : s14 (23 + i) 3 = σ 67 i + y := by
    rw [e14, up_ne _ _ (by omega), e13, up_ne _ _ (by omega), e12, up_ne _ _ (by omega), e11, up_ne _ _ (by omega), e10, up_ne _ _ (by omega), e9, up_ne _ _ (by omega), e8, up_ne _ _ (by omega), er3, up_ne _ _ (by omega), er2, up_ne _ _ (by omega), er1, up_ne _ _ (by omega), e6, up_self, gi.2.2.2.1]
  have k20 : s14 k2 0 = nI e := by
    rw [e14, up_ne _ _ (by omega), e13, up_ne _ _ (by omega), e12, up_ne _ _ (by omega), e11, up_ne _ _ (by omega), e10, up_ne _ _ (by omega), e9, up_ne _ _ (by omega), e8, up_ne _ _ (by omega), er3, up_ne _ _ (by omega), er2, up_ne _ _ (by omega), er1, up_self]
  have k21 : s14 k2 1 = x := by
    rw [e14, up_ne _ _ (by omega), e13, up_ne _ _ (by omega), e12, up_ne _ _ (by omega), e11, up_ne _ _ (by omega), e10, up_ne _ _ (by omega), e9, up_ne _ _ (by omega), e8, up_self]
  have k22 : s14 k2 2 = σ 65 i := by
    rw [e14, up_ne _ _ (by omega), e13, up_ne _ _ (by omega), e12, up_ne _ _ (by omega), e11, up_ne _ _ (by omega), e10, up_ne _ _ (by omega), e9, up_self]
  have k23 : s14 k2 3 = y := by
    rw [e14, up_ne _ _ (by omega), e13, up_ne _ _ (by omega), e12, up_ne _ _ (by omega), e11, up_ne _ _ (by omega), e10, up_self]
  have k24 : s14 k2 4 = z := by
    rw [e14, up_ne _ _ (by omega), e13, up_ne _ _ (by omega), e12, up_ne _ _ (by omega), e11, up_self]
  have k25 : s14 k2 5 = σ 63 4 := by
    rw [e14, up_ne _ _ (by omega), e13, up_ne _ _ (by omega), e12, up_self]
  have k26 : s14 k2 6 = σ 63 4 * y * z := by
    rw [e14, up_ne _ _ (by omega)]; exact y4
  have c21 : s14 2 1 = nI (t + 1) := by
    rw [e14, up_ne _ _ (by omega), e13, up_ne _ _ (by omega), e12, up_ne _ _ (by omega), e11, up_ne _ _ (by omega), e10, up_ne _ _ (by omega), e9, up_ne _ _ (by omega), e8, up_ne _ _ (by omega), er3, up_ne _ _ (by omega), er2, up_self]
  have c22 : s14 2 2 = nI (e + 1) := by
    rw [e14, up_ne _ _ (by omega), e13, up_ne _ _ (by omega), e12, up_ne _ _ (by omega), e11, up_ne _ _ (by omega), e10, up_ne _ _ (by omega), e9, up_ne _ _ (by omega), e8, up_ne _ _ (by omega), er3, up_self]
  have c23 : s14 2 3 = σ 63 8 + σ 63 4 * y * z := by rw [e14, up_self]
  clear e6 er1 er2 er3 e8 e9 e10 e11 e12 e13 e14 y1 y2 y3 y4 y5 fr13 fr3 h21 h3t h22 x21 x22 bad
  intro s1 e1
  have ag1 : ∀ a b, ¬ (a = 23 + i ∧ b = 3) → ¬ (a = k2) → ¬ (a = 2 ∧ (b = 1 ∨ b = 2 ∨ b = 3)) → ¬ (a = 63 ∧ b = 0) → s1 a b = σ a b := fun a b z1 z2 z3 z4 => by
    rw [e1, up_ne _ _ z4, fr14 a b z1 z2 z3]
  have gM : ∀ b, b ≠ 0 → s1 63 b = σ 63 b := fun b hb => ag1 63 b (by omega) (by omega) (by omega) (by omega)
  have gA : ∀ a b, 64 ≤ a → s1 a b = σ a b := fun a b ha => ag1 a b (by omega) (by omega) (by omega) (by omega)
  refine R9_is a1 (by rw [gM 10 (by omega)]; exact a4) (fun _ _ => tt1 (R9_in (fun _ => tt1 (R9_in (fun _ => tf1 ?_) (fun w => absurd hz w))) (fun w => absurd hy w))) (fun w => absurd hx w)
  rw [gM 6 (by omega), gM 5 (by omega), gM 18 (by omega), a6, hie, gA 66 i (by omega), nI_clamp (show t < 2 ^ 31 by omega), gM 19 (by omega), a7b]
  refine ⟨fun _ => ⟨fun w => absurd ((lt30 a2).2.mp w) (by omega), fun _ => ⟨hx10, fun _ => ⟨ht30, fun q5 d5 => ?_⟩, fun w => absurd hyle w⟩⟩, fun w => absurd hle w⟩
  have f18 : q5 63 18 = nI t := by rw [d5, up_ne _ _ (by omega), gM 18 (by omega)]; exact a6
  rw [f18, nI_clamp (show t < 2 ^ 31 by omega)]
  refine ⟨ht30, fun q6 d6 => ?_⟩
  clear f18
  have f18 : q6 63 18 = nI t := by rw [d6, up_ne _ _ (by omega), d5, up_ne _ _ (by omega), gM 18 (by omega)]; exact a6
  rw [f18, nI_clamp (show t < 2 ^ 31 by omega)]
  refine ⟨ht30, fun q7 d7 => ?_⟩
  clear f18
  have f18 : q7 63 18 = nI t := by rw [d7, up_ne _ _ (by omega), d6, up_ne _ _ (by omega), d5, up_ne _ _ (by omega), gM 18 (by omega)]; exact a6
  rw [f18, nI_clamp (show t < 2 ^ 31 by omega)]
  refine ⟨ht30, fun q8 d8 => ?_⟩
  clear f18
  have f18 : q8 63 18 = nI t := by rw [d8, up_ne _ _ (by omega), d7, up_ne _ _ (by omega), d6, up_ne _ _ (by omega), d5, up_ne _ _ (by omega), gM 18 (by omega)]; exact a6
  have f4 : q8 63 4 = σ 63 4 := by rw [d8, up_ne _ _ (by omega), d7, up_ne _ _ (by omega), d6, up_ne _ _ (by omega), d5, up_ne _ _ (by omega), gM 4 (by omega)]
  rw [f18, nI_clamp (show t < 2 ^ 31 by omega), f4]
  refine ⟨ht30, fun q9 d9 => ?_⟩
  clear f18 f4
  have f18 : q9 63 18 = nI t := by rw [d9, up_ne _ _ (by omega), d8, up_ne _ _ (by omega), d7, up_ne _ _ (by omega), d6, up_ne _ _ (by omega), d5, up_ne _ _ (by omega), gM 18 (by omega)]; exact a6
  have f4 : q9 63 4 = σ 63 4 := by rw [d9, up_ne _ _ (by omega), d8, up_ne _ _ (by omega), d7, up_ne _ _ (by omega), d6, up_ne _ _ (by omega), d5, up_ne _ _ (by omega), gM 4 (by omega)]
  rw [f18, nI_clamp (show t < 2 ^ 31 by omega), f4]
  refine ⟨ht30, fun q10 d10 => ?_⟩
  clear f18 f4
  have f18 : q10 63 18 = nI t := by rw [d10, up_ne _ _ (by omega), d9, up_ne _ _ (by omega), d8, up_ne _ _ (by omega), d7, up_ne _ _ (by omega), d6, up_ne _ _ (by omega), d5, up_ne _ _ (by omega), gM 18 (by omega)]; exact a6
  have f65 : q10 65 i = σ 65 i := by rw [d10, up_ne _ _ (by omega), d9, up_ne _ _ (by omega), d8, up_ne _ _ (by omega), d7, up_ne _ _ (by omega), d6, up_ne _ _ (by omega), d5, up_ne _ _ (by omega), gA 65 i (by omega)]
  rw [f18, nI_clamp (show t < 2 ^ 31 by omega), f65]
  refine ⟨hx10, ht30, fun q11 d11 => ?_⟩
  clear f18 f65
  have f66 : q11 66 i = σ 66 i := by rw [d11, up_ne _ _ (by omega), d10, up_ne _ _ (by omega), d9, up_ne _ _ (by omega), d8, up_ne _ _ (by omega), d7, up_ne _ _ (by omega), d6, up_ne _ _ (by omega), d5, up_ne _ _ (by omega), gA 66 i (by omega)]
  rw [f66]
  refine ⟨hx10, hx10, fun q12 d12 => ?_⟩
  clear f66
  have f67 : q12 67 i = σ 67 i := by rw [d12, up_ne _ _ (by omega), d11, up_ne _ _ (by omega), d10, up_ne _ _ (by omega), d9, up_ne _ _ (by omega), d8, up_ne _ _ (by omega), d7, up_ne _ _ (by omega), d6, up_ne _ _ (by omega), d5, up_ne _ _ (by omega), gA 67 i (by omega)]
  rw [f67]
  refine ⟨hx10, hx10, fun q13 d13 => ?_⟩
  clear f67
  have f18 : q13 63 18 = nI t := by rw [d13, up_ne _ _ (by omega), d12, up_ne _ _ (by omega), d11, up_ne _ _ (by omega), d10, up_ne _ _ (by omega), d9, up_ne _ _ (by omega), d8, up_ne _ _ (by omega), d7, up_ne _ _ (by omega), d6, up_ne _ _ (by omega), d5, up_ne _ _ (by omega), gM 18 (by omega)]; exact a6
  have f8 : q13 63 8 = σ 63 8 := by rw [d13, up_ne _ _ (by omega), d12, up_ne _ _ (by omega), d11, up_ne _ _ (by omega), d10, up_ne _ _ (by omega), d9, up_ne _ _ (by omega), d8, up_ne _ _ (by omega), d7, up_ne _ _ (by omega), d6, up_ne _ _ (by omega), d5, up_ne _ _ (by omega), gM 8 (by omega)]
  have f75 : q13 75 t = σ 63 4 * y * z := by rw [d13, up_ne _ _ (by omega), d12, up_ne _ _ (by omega), d11, up_ne _ _ (by omega), d10, up_ne _ _ (by omega), d9, up_self]
  rw [f18, nI_clamp (show t < 2 ^ 31 by omega), f75, f8]
  refine ⟨ht30, fun q14 d14 q15 d15 q16 d16 => ?_⟩
  have f14 : q14 63 18 = nI t := by rw [d14, up_ne _ _ (by omega)]; exact f18
  rw [f14, nI_1] at d15
  have f19 : q15 63 19 = nI e := by rw [d15, up_ne _ _ (by omega), d14, up_ne _ _ (by omega), d13, up_ne _ _ (by omega), d12, up_ne _ _ (by omega), d11, up_ne _ _ (by omega), d10, up_ne _ _ (by omega), d9, up_ne _ _ (by omega), d8, up_ne _ _ (by omega), d7, up_ne _ _ (by omega), d6, up_ne _ _ (by omega), d5, up_ne _ _ (by omega), gM 19 (by omega)]; exact a7b
  rw [f19, nI_1] at d16
  have fr : ∀ a b, ¬ (a = 63 ∧ (b = 8 ∨ b = 18 ∨ b = 19)) → ¬ (71 ≤ a ∧ a ≤ 77 ∧ b = t) → ¬ (a = 66 ∧ b = i) → ¬ (a = 67 ∧ b = i) → q16 a b = s1 a b := fun a b z1 z2 z3 z4 => by
    rw [d16, up_ne _ _ (by omega), d15, up_ne _ _ (by omega), d14, up_ne _ _ (by omega), d13, up_ne _ _ (by omega), d12, up_ne _ _ (by omega), d11, up_ne _ _ (by omega), d10, up_ne _ _ (by omega), d9, up_ne _ _ (by omega), d8, up_ne _ _ (by omega), d7, up_ne _ _ (by omega), d6, up_ne _ _ (by omega), d5, up_ne _ _ (by omega)]
  have o71 : q16 71 t = nI e := by rw [d16, up_ne _ _ (by omega), d15, up_ne _ _ (by omega), d14, up_ne _ _ (by omega), d13, up_ne _ _ (by omega), d12, up_ne _ _ (by omega), d11, up_ne _ _ (by omega), d10, up_ne _ _ (by omega), d9, up_ne _ _ (by omega), d8, up_ne _ _ (by omega), d7, up_ne _ _ (by omega), d6, up_ne _ _ (by omega), d5, up_self]
  have o72 : q16 72 t = x := by rw [d16, up_ne _ _ (by omega), d15, up_ne _ _ (by omega), d14, up_ne _ _ (by omega), d13, up_ne _ _ (by omega), d12, up_ne _ _ (by omega), d11, up_ne _ _ (by omega), d10, up_ne _ _ (by omega), d9, up_ne _ _ (by omega), d8, up_ne _ _ (by omega), d7, up_ne _ _ (by omega), d6, up_self]
  have o73 : q16 73 t = y := by rw [d16, up_ne _ _ (by omega), d15, up_ne _ _ (by omega), d14, up_ne _ _ (by omega), d13, up_ne _ _ (by omega), d12, up_ne _ _ (by omega), d11, up_ne _ _ (by omega), d10, up_ne _ _ (by omega), d9, up_ne _ _ (by omega), d8, up_ne _ _ (by omega), d7, up_self]
  have o74 : q16 74 t = z := by rw [d16, up_ne _ _ (by omega), d15, up_ne _ _ (by omega), d14, up_ne _ _ (by omega), d13, up_ne _ _ (by omega), d12, up_ne _ _ (by omega), d11, up_ne _ _ (by omega), d10, up_ne _ _ (by omega), d9, up_ne _ _ (by omega), d8, up_self]
  have o75 : q16 75 t = σ 63 4 * y * z := by rw [d16, up_ne _ _ (by omega), d15, up_ne _ _ (by omega), d14, up_ne _ _ (by omega), d13, up_ne _ _ (by omega), d12, up_ne _ _ (by omega), d11, up_ne _ _ (by omega), d10, up_ne _ _ (by omega), d9, up_self]
  have o76 : q16 76 t = σ 63 4 := by rw [d16, up_ne _ _ (by omega), d15, up_ne _ _ (by omega), d14, up_ne _ _ (by omega), d13, up_ne _ _ (by omega), d12, up_ne _ _ (by omega), d11, up_ne _ _ (by omega), d10, up_self]
  have o77 : q16 77 t = σ 65 i := by rw [d16, up_ne _ _ (by omega), d15, up_ne _ _ (by omega), d14, up_ne _ _ (by omega), d13, up_ne _ _ (by omega), d12, up_ne _ _ (by omega), d11, up_self]
  have o66 : q16 66 i = σ 66 i - y := by rw [d16, up_ne _ _ (by omega), d15, up_ne _ _ (by omega), d14, up_ne _ _ (by omega), d13, up_ne _ _ (by omega), d12, up_self]
  have o67 : q16 67 i = σ 67 i + y := by rw [d16, up_ne _ _ (by omega), d15, up_ne _ _ (by omega), d14, up_ne _ _ (by omega), d13, up_self]
  have o8 : q16 63 8 = σ 63 8 + σ 63 4 * y * z := by rw [d16, up_ne _ _ (by omega), d15, up_ne _ _ (by omega), d14, up_self]
  have o18 : q16 63 18 = nI (t + 1) := by rw [d16, up_ne _ _ (by omega), d15, up_self]
  have o19 : q16 63 19 = nI (e + 1) := by rw [d16, up_self]
  have frc : ∀ a b, a < 63 → q16 a b = s14 a b := fun a b ha => by
    rw [fr a b (by omega) (by omega) (by omega) (by omega), e1, up_ne _ _ (by omega)]
  refine leaf hQ (inv_hire (x := x) (y := y) (z := z) (i := i) (e := e) hc hs hst hmo hru htp has p1 p2 p3 ht ee a7b hie.symm hin hxn hyn (by omega) (by omega) hzn (by omega) (by omega) ((le_N hyn (m1 i hi10).1).mp hyle) (fun a b z1 z2 z3 z4 z5 z6 z7 => ?_) ?_ o18 ?_ o19 ?_ ?_ o67 o66 ?_ o71 o72 o73 o74) ?_
  · rw [fr a b (by omega) z5 z6 z7, ag1 a b z2 (by omega) z4 (by omega)]
  · rw [frc 2 1 (by omega)]; exact c21
  · rw [frc 2 2 (by omega)]; exact c22
  · rw [frc 2 3 (by omega), o8]; exact c23
  · rw [frc (23 + i) 3 (by omega)]; exact c3
  · rw [ek2] at k20 k21 k22 k23 k24 k25 k26
    unfold tkEq
    rw [frc _ 0 (by omega), frc _ 1 (by omega), frc _ 2 (by omega), frc _ 3 (by omega), frc _ 4 (by omega), frc _ 5 (by omega), frc _ 6 (by omega), o71, o72, o73, o74, o75, o76, o77]
    exact ⟨k20, k21, k22, k23, k24, k25, k26⟩
  · rw [k20, o19, nI_m1]
