/-! stretch, count -/
theorem st_stretch {c : Nat} {σ : ST} {Q : Int32 → Int32 → ST → Prop} (h : Inv c σ) (hQ : ∀ r s, Inv (c + 1) s → Q r r s) (x y : Int32) : w_X8_stretch σ x y (fun r1 s1 => w_X9_stretch s1 x y (fun r2 s2 => Q r1 r2 s2)) := by
  have hh := h
  obtain ⟨n, t, hs, hst, htk, hmo, hru, htp, has⟩ := h
  obtain ⟨a1, a2, a3, a4, a5, a6, a7, b0, b1, b2, b3, b4, b5⟩ := id hs
  refine R8_w (fun hx => tt1 (R8_w (fun hy => tf1 ⟨fun hlt => ⟨?_, ?_⟩, fun hlt => ?_⟩) (fun hy => tf0 ?_))) (fun hx => tt0 ?_)
  · rw [a3] at hlt ⊢
    have : n < 10 := by
      rcases Nat.lt_or_ge n 10 with q | q
      · exact q
      · exact absurd hlt (nI_nlt (a := n) (b := 10) q (by omega))
    exact vp_in_nI this (by decide)
  · have hn10 : n < 10 := by
      rw [a3] at hlt
      rcases Nat.lt_or_ge n 10 with q | q
      · exact q
      · exact absurd hlt (nI_nlt (a := n) (b := 10) q (by omega))
    have hnN : (σ 0 7).toNatClampNeg = n := by rw [a3]; exact nI_clamp (by omega)
    rw [hnN]
    intro k1 e1 s3 e3 s4 e4 s5 e5 s1 e6
    subst e1
    have hv7 : s5 0 7 = nI (n + 1) := by subst e5; subst e4; subst e3; simp [up]; rw [a3, nI_1]
    have h10 : s1 63 10 = nI n := by subst e6; subst e5; subst e4; subst e3; simp [up]; exact a4
    have h10N : (s1 63 10).toNatClampNeg = n := by rw [h10]; exact nI_clamp (by omega)
    refine R9_in (fun _ => tt1 (R9_in (fun _ => tf1 ⟨fun _ => ⟨by rw [h10]; exact vp_in_nI hn10 (by decide), ?_⟩, fun z => ?_⟩) (fun z => absurd hy z))) (fun z => absurd hx z)
    · rw [h10N]
      intro s7 e7
      have h7 : s7 63 10 = nI n := by subst e7; simp [up]; exact h10
      refine ⟨by rw [h7]; exact vp_in_nI hn10 (by decide), ?_⟩
      rw [h7, nI_clamp (show n < 2 ^ 31 by omega)]
      intro s8 e8 s9 e9
      have h9 : s9 63 10 = nI (n + 1) := by subst e9; subst e8; simp [up]; rw [h7, nI_1]
      refine leaf hQ ?_ (by rw [hv7, h9])
      clear h10 h10N hnN hlt h7
      refine ⟨n + 1, t, ?_, ?_, fr_tk hs.2.1 htk (fun a b hf => ?_), ?_, fr_ru hru (fun a b hf => ?_), fr_tp htp (fun a b hf => ?_), fr_as has (fun a b hf => ?_)⟩
      · obtain ⟨e, ee, a7a, a7b⟩ := a7
        have h90 : s9 0 7 = nI (n + 1) := by rw [← hv7]; subst e9; subst e8; subst e7; subst e6; simp [up]
        subst e9; subst e8; subst e7; subst e6; subst e5; subst e4; subst e3
        refine ⟨by omega, a2, h90, h9, ?_, ?_, ⟨e, by omega, ?_, ?_⟩, ?_, ?_, ?_, ?_, ?_, ?_, ?_, ?_, ?_, ?_⟩ <;> simp [up] <;> first | assumption | exact b5.1 | exact b5.2.1 | exact b5.2.2.1 | exact b5.2.2.2.1 | exact b5.2.2.2.2 | skip
        all_goals (repeat rw [if_neg (by omega)])
        all_goals first | assumption | exact b5.1 | exact b5.2.1 | exact b5.2.2.1 | exact b5.2.2.2.1 | exact b5.2.2.2.2
      · subst e9; subst e8; subst e7; subst e6; subst e5; subst e4; subst e3
        intro j hj
        obtain ⟨e0, e1, e2, e3, e4, e5, e6⟩ := hst j hj
        by_cases hji : j = n
        · subst hji
          simp [up, show ¬ (23 + j = 63) by omega, show ¬ (23 + j = 64) by omega, show ¬ (23 + j = 65) by omega, show ¬ (23 + j = 0) by omega]
          repeat rw [if_neg (by omega)]
          exact ⟨e2, e3, e4, e5, e6⟩
        · simp only [up]
          repeat rw [if_neg (by omega)]
          exact ⟨e0, e1, e2, e3, e4, e5, e6⟩
      · subst e9; subst e8; subst e7; subst e6; subst e5; subst e4; subst e3
        simp only [up]; repeat rw [if_neg (by omega)]
      · obtain ⟨m1, m2, m3, m4, m5⟩ := fr_mo (τ := s9) hmo (fun a b hf => by subst e9; subst e8; subst e7; subst e6; subst e5; subst e4; subst e3; simp only [up]; repeat rw [if_neg (by omega)])
        exact ⟨m1, m2, fun i hi => by obtain ⟨q1, q2, q3, q4, q5⟩ := m3 i hi; exact ⟨q1, q2, q3, by omega, q5⟩, m4, m5⟩
      all_goals (subst e9; subst e8; subst e7; subst e6; subst e5; subst e4; subst e3; simp only [up]; repeat rw [if_neg (by omega)])
    · rw [h10] at z
      exact absurd ((nI_eq (a := n) (b := 10) (by omega) (by omega)).mp z) (show ¬ n = 10 by omega)
  · intro s1 e1
    obtain ⟨hI, hag⟩ := th hh e1
    have hn10 : n = 10 := by
      rw [a3] at hlt
      rcases Nat.lt_or_ge n 10 with q | q
      · exact absurd (nI_lt (a := n) (b := 10) q (by omega)) hlt
      · omega
    refine R9_in (fun _ => tt1 (R9_in (fun _ => tf1 ⟨fun z => absurd ?_ z, fun _ => hQ _ _ hI⟩) (fun z => absurd hy z))) (fun z => absurd hx z)
    rw [hag 63 10 (by decide), a4, hn10]; rfl
  · intro s1 e1
    obtain ⟨hI, hag⟩ := th hh e1
    exact R9_in (fun _ => tt1 (R9_in (fun z => absurd z hy) (fun _ => tf0 (hQ _ _ hI)))) (fun z => absurd hx z)
  · intro s1 e1
    obtain ⟨hI, hag⟩ := th hh e1
    exact R9_in (fun z => absurd z hx) (fun _ => tt0 (hQ _ _ hI))
/-- the sum of what stands -/
def sumI (f : Nat → Int32) : Nat → Int32
  | 0 => 0
  | n + 1 => sumI f n + f n
theorem all8 {σ : ST} {n : Nat} (hn : n ≤ 10) (h7 : σ 0 7 = nI n) {K : ST → Int32 → Prop} {Q : Int32 → ST → Prop} (hK : K σ (sumI (fun i => σ (23 + i) 2) n)) : ∀ (d i : Nat), i + d = n → w_X8_allStanding_L4 K Q (d + 1) σ (sumI (fun i => σ (23 + i) 2) i) (nI i) := by
  intro d
  induction d with
  | zero =>
    intro i hi
    obtain rfl : i = n := by omega
    refine ⟨fun _ => hK, fun z => absurd (by rw [h7]; exact Int32.le_refl _) z⟩
  | succ d ih =>
    intro i hi
    refine ⟨fun z => absurd z (by rw [h7]; exact nI_ge (a := i) (b := n) (by omega) (by omega)), fun _ => ⟨vp_in_nI (by omega) (by decide), ?_⟩⟩
    intro k1 e1 x1 e2 x2 e3
    rw [nI_clamp (by omega)] at e1
    subst e1
    rw [e2, e3, nI_1]
    exact ih (i + 1) (by omega)
theorem all9 {σ : ST} {n : Nat} (hn : n ≤ 10) (h7 : σ 63 10 = nI n) {K : ST → Int32 → Prop} {Q : Int32 → ST → Prop} (hK : K σ (sumI (fun i => σ 66 i + σ 67 i) n)) : ∀ (d i : Nat), i + d = n → w_X9_count_L74 K Q (d + 1) σ (sumI (fun i => σ 66 i + σ 67 i) i) (nI i) := by
  intro d
  induction d with
  | zero =>
    intro i hi
    obtain rfl : i = n := by omega
    refine ⟨fun _ => hK, fun z => absurd (by rw [h7]; exact Int32.le_refl _) z⟩
  | succ d ih =>
    intro i hi
    refine ⟨fun z => absurd z (by rw [h7]; exact nI_ge (a := i) (b := n) (by omega) (by omega)), fun _ => ?_⟩
    have hv : vp_in (nI i) 10 := vp_in_nI (by omega) (by decide)
    refine ⟨hv, hv, ?_⟩
    rw [nI_clamp (by omega)]
    intro x1 e2 x2 e3
    rw [e2, e3, nI_1]
    exact ih (i + 1) (by omega)
theorem sumI_congr {f g : Nat → Int32} : ∀ {n : Nat}, (∀ i, i < n → f i = g i) → sumI f n = sumI g n := by
  intro n
  induction n with
  | zero => intro _; rfl
  | succ n ih => intro h; unfold sumI; rw [ih (fun i hi => h i (by omega)), h n (by omega)]
theorem st_count {c : Nat} {σ : ST} {Q : Int32 → Int32 → ST → Prop} (h : Inv c σ) (hQ : ∀ r s, Inv (c + 1) s → Q r r s) (x : Int32) : w_X8_count σ x (fun r1 s1 => w_X9_count s1 x (fun r2 s2 => Q r1 r2 s2)) := by
  have hh := h
  obtain ⟨n, t, hs, hst, htk, hmo, hru, htp, has⟩ := h
  obtain ⟨a1, a2, a3, a4, a5, a6, ⟨e, ee, a7, a8⟩, b0, b1, b2, b3, b4, b5, b6, b7, b8, b9⟩ := id hs
  have key : ∀ (r1 r2 : Int32) (s1 : ST), s1 = up σ 63 0 0 → r1 = r2 → Q r1 r2 s1 := fun r1 r2 s1 e1 e2 => leaf hQ (th hh e1).1 e2
  have hag : ∀ s1, s1 = up σ 63 0 0 → ∀ b, b ≠ 0 → s1 63 b = σ 63 b := fun s1 e1 b hb => (th hh e1).2 63 b (fun z => hb z.2)
  unfold w_X8_count w_X9_count
  by_cases x0 : x = 0
  · subst x0; simp; refine key _ _ _ rfl ?_; rw [hag _ rfl 10 (by decide), a3, a4]
  by_cases x1 : x = 1
  · subst x1; simp; refine key _ _ _ rfl ?_; rw [hag _ rfl 1 (by decide), b0]
  by_cases x2 : x = 2
  · subst x2; simp
    refine ⟨n + 1, all8 a1 a3 ?_ n 0 (by omega)⟩
    refine ⟨n + 1, all9 a1 (by rw [hag _ rfl 10 (by decide), a4]) ?_ n 0 (by omega)⟩
    refine key _ _ _ rfl (sumI_congr (fun i hi => ?_))
    rw [(hst i (by omega)).2.2.1]
    simp [up]
  by_cases x3 : x = 3
  · subst x3; simp; refine key _ _ _ rfl ?_; rw [hag _ rfl 2 (by decide), b1]
  by_cases x4 : x = 4
  · subst x4; simp; refine key _ _ _ rfl ?_; rw [hag _ rfl 3 (by decide), b2]
  by_cases x5 : x = 5
  · subst x5; simp; refine key _ _ _ rfl ?_; rw [hag _ rfl 18 (by decide), a5, a6]
  by_cases x6 : x = 6
  · subst x6; simp; refine key _ _ _ rfl ?_; rw [hag _ rfl 19 (by decide), a7, a8]
  by_cases x7 : x = 7
  · subst x7; simp; refine key _ _ _ rfl ?_; rw [hag _ rfl 7 (by decide), b5]
  by_cases x8 : x = 8
  · subst x8; simp; refine key _ _ _ rfl ?_; rw [hag _ rfl 8 (by decide), b8]
  by_cases x9 : x = 9
  · subst x9; simp; refine key _ _ _ rfl ?_; rw [hag _ rfl 9 (by decide), b9]
  · simp [x0, x1, x2, x3, x4, x5, x6, x7, x8, x9]; exact key _ _ _ rfl rfl
