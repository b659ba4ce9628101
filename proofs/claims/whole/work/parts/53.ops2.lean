/-! kinds, trace, count, unpaid, rule, mend, stretch -/
theorem k32_0 : (0 : Int32).toInt = 0 := rfl
theorem k64_0 : (0 : Int64).toInt = 0 := rfl
theorem k32_1 : (1 : Int32).toInt = 1 := rfl
theorem k64_1 : (1 : Int64).toInt = 1 := rfl
theorem k32_2 : (2 : Int32).toInt = 2 := rfl
theorem k64_2 : (2 : Int64).toInt = 2 := rfl
theorem k32_3 : (3 : Int32).toInt = 3 := rfl
theorem k64_3 : (3 : Int64).toInt = 3 := rfl
theorem k32_5 : (5 : Int32).toInt = 5 := rfl
theorem k64_5 : (5 : Int64).toInt = 5 := rfl
theorem k32_8 : (8 : Int32).toInt = 8 := rfl
theorem k64_8 : (8 : Int64).toInt = 8 := rfl
theorem k32_10 : (10 : Int32).toInt = 10 := rfl
theorem k64_10 : (10 : Int64).toInt = 10 := rfl
theorem k32_12 : (12 : Int32).toInt = 12 := rfl
theorem k64_12 : (12 : Int64).toInt = 12 := rfl
theorem k32_60 : (60 : Int32).toInt = 60 := rfl
theorem k64_60 : (60 : Int64).toInt = 60 := rfl
theorem k32_100 : (100 : Int32).toInt = 100 := rfl
theorem k64_100 : (100 : Int64).toInt = 100 := rfl
theorem k32_500 : (500 : Int32).toInt = 500 := rfl
theorem k64_500 : (500 : Int64).toInt = 500 := rfl
theorem k32_1000 : (1000 : Int32).toInt = 1000 := rfl
theorem k64_1000 : (1000 : Int64).toInt = 1000 := rfl
theorem k32_9000 : (9000 : Int32).toInt = 9000 := rfl
theorem k64_9000 : (9000 : Int64).toInt = 9000 := rfl
theorem k32_1000000 : (1000000 : Int32).toInt = 1000000 := rfl
theorem k64_1000000 : (1000000 : Int64).toInt = 1000000 := rfl
theorem th {c : Nat} {σ s1 : ST} (h : Inv c σ) (e : s1 = up σ 63 0 0) : Inv (c + 1) s1 ∧ ∀ a b, ¬ (a = 63 ∧ b = 0) → s1 a b = σ a b := by
  subst e
  exact ⟨inv_thrown h (Nat.le_succ c) 0, fun a b h => up_ne _ _ h⟩
theorem b1 {p : Prop} [Decidable p] (h : p) : bI p = 1 := if_pos h
theorem b0 {p : Prop} [Decidable p] (h : ¬ p) : bI p = 0 := if_neg h
/-- after a test -/
theorem tt1 {A B : Prop} (h : B) : ((1 : Int32) = 0 → A) ∧ (¬ (1 : Int32) = 0 → B) := ⟨fun z => absurd z (by decide), fun _ => h⟩
theorem tf1 {A B : Prop} (h : B) : (¬ (1 : Int32) = 0 → B) ∧ ((1 : Int32) = 0 → A) := ⟨fun _ => h, fun z => absurd z (by decide)⟩
theorem tt0 {A B : Prop} (h : A) : ((0 : Int32) = 0 → A) ∧ (¬ (0 : Int32) = 0 → B) := ⟨fun _ => h, fun z => absurd rfl z⟩
theorem tf0 {A B : Prop} (h : A) : (¬ (0 : Int32) = 0 → B) ∧ ((0 : Int32) = 0 → A) := ⟨fun z => absurd rfl z, fun _ => h⟩
def kV (σ : ST) (i : Nat) : Int32 := if σ 66 i + σ 67 i = 0 then 3 else if σ 66 i ≤ 0 then (if σ 69 i ≤ 0 then 1 else 2) else 0
theorem lt1 (x : Int32) : x < 1 ↔ x ≤ 0 := by
  rw [Int32.lt_iff_toInt_lt, Int32.le_iff_toInt_le, k32_1, k32_0]
  omega
theorem add_sub_r (a b : Int32) : a + b - b = a := by
  apply Int32.toBitVec_inj.mp
  simp [BitVec.add_sub_cancel]
theorem toldKind_e {σ : ST} {i : Nat} {k : Nat} (h : ISt σ) (hi : i < 10) (hk : k = 23 + i) (Q : Int32 → ST → Prop) : w_X4_toldKind σ k Q = Q (kV σ i) σ := by
  subst hk
  obtain ⟨e0, e1, e2, e3, e4, e5, e6⟩ := h i hi
  unfold w_X4_toldKind w_X4_free kV
  simp only [e2, e3, e5, add_sub_r, lt1]
  by_cases h1 : σ 66 i + σ 67 i = 0
  · simp [h1]
  · by_cases h2 : σ 66 i ≤ 0
    · by_cases h3 : σ 69 i ≤ 0
      · simp [h1, h2, h3]
      · simp [h1, h2, h3]
    · simp [h1, h2]
theorem kindOf_e {s : ST} {x : Int32} (hx : vp_in x 10) (Q : Int32 → ST → Prop) : w_X9_kindOf s x Q = Q (kV s x.toNatClampNeg) s := by
  unfold w_X9_kindOf w_X9_standing kV
  by_cases h1 : s 66 x.toNatClampNeg + s 67 x.toNatClampNeg = 0
  · simp [h1, hx]
  · by_cases h2 : s 66 x.toNatClampNeg ≤ 0
    · by_cases h3 : s 69 x.toNatClampNeg ≤ 0
      · simp [h1, h2, h3, hx]
      · simp [h1, h2, h3, hx]
    · simp [h1, h2, hx]
theorem kV_ag {σ s1 : ST} (e : ∀ a b, ¬ (a = 63 ∧ b = 0) → s1 a b = σ a b) (i : Nat) : kV s1 i = kV σ i := by
  unfold kV
  rw [e 66 i (by simp), e 67 i (by simp), e 69 i (by simp)]
/-- isStretch: a number below n, or not -/
theorem R8_is {s : ST} {n : Nat} (hn : n ≤ 10) (h : s 0 7 = nI n) {x : Int32} {Q : Int32 → ST → Prop} (h1 : vp_in x n → vp_in x 10 → Q 1 s) (h0 : ¬ vp_in x n → Q 0 s) : w_X8_isStretch s x Q := by
  rw [is8e, h, nm1 (by omega)]
  by_cases hx : 0 ≤ x.toInt ∧ x.toInt ≤ (n : Int) - 1
  · rw [b1 hx]; exact h1 (vp_lt hx) (vp_lt ⟨hx.1, by omega⟩)
  · rw [b0 hx]; exact h0 (fun z => hx (by rw [vp_in_iff] at z; omega))
theorem R9_is {s : ST} {n : Nat} (hn : n ≤ 10) (h : s 63 10 = nI n) {x : Int32} {Q : Int32 → ST → Prop} (h1 : vp_in x n → vp_in x 10 → Q 1 s) (h0 : ¬ vp_in x n → Q 0 s) : w_X9_isStretch s x Q := by
  rw [is9e, h, nm1 (by omega)]
  by_cases hx : 0 ≤ x.toInt ∧ x.toInt ≤ (n : Int) - 1
  · rw [b1 hx]; exact h1 (vp_lt hx) (vp_lt ⟨hx.1, by omega⟩)
  · rw [b0 hx]; exact h0 (fun z => hx (by rw [vp_in_iff] at z; omega))
theorem R8_w {s : ST} {v a b : Int32} {Q : Int32 → ST → Prop} (h1 : a.toInt ≤ v.toInt ∧ v.toInt ≤ b.toInt → Q 1 s) (h0 : ¬ (a.toInt ≤ v.toInt ∧ v.toInt ≤ b.toInt) → Q 0 s) : w_X8_within s v a b Q := by
  rw [within_e]
  by_cases hx : a.toInt ≤ v.toInt ∧ v.toInt ≤ b.toInt
  · rw [b1 hx]; exact h1 hx
  · rw [b0 hx]; exact h0 hx
theorem R9_in {s : ST} {v : Int32} {a b : Int64} {Q : Int32 → ST → Prop} (h1 : a.toInt ≤ v.toInt ∧ v.toInt ≤ b.toInt → Q 1 s) (h0 : ¬ (a.toInt ≤ v.toInt ∧ v.toInt ≤ b.toInt) → Q 0 s) : w_X9_in s v.toInt64 a b Q := by
  rw [in_e]
  by_cases hx : a.toInt ≤ v.toInt ∧ v.toInt ≤ b.toInt
  · rw [b1 hx]; exact h1 hx
  · rw [b0 hx]; exact h0 hx
theorem st_kind {c : Nat} {σ : ST} {Q : Int32 → Int32 → ST → Prop} (h : Inv c σ) (hQ : ∀ r s, Inv (c + 1) s → Q r r s) (x : Int32) : w_X8_kind σ x (fun r1 s1 => w_X9_kind s1 x (fun r2 s2 => Q r1 r2 s2)) := by
  have hh := h
  obtain ⟨n, t, hs, hst, -⟩ := h
  refine R8_is hs.1 hs.2.2.1 (fun hx hx10 => tf1 ⟨hx10, ?_⟩) (fun hx => tf0 ?_)
  · intro k1 e1
    rw [toldKind_e hst (in_lt hx10) e1]
    intro s1 e2
    obtain ⟨hI, hag⟩ := th hh e2
    refine R9_is hs.1 (by rw [hag 63 10 (by decide)]; exact hs.2.2.2.1) (fun _ _ => tt1 ?_) (fun z => absurd hx z)
    rw [kindOf_e hx10, kV_ag hag]
    exact hQ _ _ hI
  · intro s1 e2
    obtain ⟨hI, hag⟩ := th hh e2
    exact R9_is hs.1 (by rw [hag 63 10 (by decide)]; exact hs.2.2.2.1) (fun z _ => absurd z hx) (fun _ => tt0 (hQ _ _ hI))
theorem st_as {c : Nat} {σ : ST} {Q : Int32 → Int32 → ST → Prop} (h : Inv c σ) (hQ : ∀ r s, Inv (c + 1) s → Q r r s) (x y : Int32) : w_X8_as σ x y (fun r1 s1 => w_X9_as s1 x y (fun r2 s2 => Q r1 r2 s2)) := by
  have hh := h
  obtain ⟨n, t, hs, hst, -⟩ := h
  refine R8_is hs.1 hs.2.2.1 (fun hx hx10 => tt1 (R8_w (fun hy => tf1 ⟨hx10, ?_⟩) (fun hy => tf0 ?_))) (fun hx => tt0 ?_)
  · intro k1 e1
    have e0 := (hst _ (in_lt hx10)).1
    unfold w_X4_isOf
    rw [toldKind_e hst (in_lt hx10) e1]
    have fin : ∀ (r : Int32), (r = if y = 0 ∨ kV σ x.toNatClampNeg = y ∨ (y = 1 ∧ kV σ x.toNatClampNeg = 2) then σ 64 x.toNatClampNeg else (-1000004)) → w_X9_as σ x y (fun r2 s2 => Q r r2 s2) := by
      intro r hr s1 e2
      obtain ⟨hI, hag⟩ := th hh e2
      refine R9_is hs.1 (by rw [hag 63 10 (by decide)]; exact hs.2.2.2.1) (fun _ _ => tt1 (R9_in (fun _ => tf1 ?_) (fun z => absurd hy z))) (fun z => absurd hx z)
      rw [kindOf_e hx10, kV_ag hag, hag 64 _ (by simp)]
      by_cases y0 : y = 0
      · rw [if_pos (Or.inl y0)] at hr; subst hr; simp only [y0, true_implies, not_true_eq_false, false_implies, and_true]; exact ⟨hx10, hQ _ _ hI⟩
      · by_cases y1 : kV σ x.toNatClampNeg = y
        · rw [if_pos (Or.inr (Or.inl y1))] at hr; subst hr; simp only [y0, y1, true_implies, not_true_eq_false, not_false_eq_true, false_implies, and_true, true_and]; exact ⟨hx10, hQ _ _ hI⟩
        · by_cases y2 : y = 1
          · by_cases y3 : kV σ x.toNatClampNeg = 2
            · rw [if_pos (Or.inr (Or.inr ⟨y2, y3⟩))] at hr; subst hr; simp only [y0, y1, y2, y3, true_implies, not_true_eq_false, not_false_eq_true, false_implies, and_true, true_and]; exact ⟨fun z => absurd z (by decide), fun _ => ⟨fun z => absurd z (by decide), fun _ => ⟨hx10, hQ _ _ hI⟩⟩⟩
            · rw [if_neg (by simp [y0, y1, y3])] at hr; subst hr
              refine ⟨fun z => absurd z y0, fun _ => ⟨fun z => absurd z y1, fun _ => ⟨fun z => absurd y2 z, fun _ => ⟨fun _ => hQ _ _ hI, fun z => absurd z y3⟩⟩⟩⟩
          · rw [if_neg (by simp [y0, y1, y2])] at hr; subst hr
            exact ⟨fun z => absurd z y0, fun _ => ⟨fun z => absurd z y1, fun _ => ⟨fun _ => hQ _ _ hI, fun z => absurd z y2⟩⟩⟩
    rw [e1]
    refine ⟨fun y0 => tt1 (fin _ (by rw [e0, if_pos (Or.inl y0)])), fun y0 => ⟨fun y1 => tt1 (fin _ (by rw [e0, if_pos (Or.inr (Or.inl y1.symm))])), fun y1 => ⟨fun y2 => tt0 (fin _ (by rw [if_neg (by rintro (z | z | z); exact y0 z; exact y1 z.symm; exact y2 z.1)])), fun y2 => ⟨fun y3 => tt0 (fin _ (by rw [if_neg (by rintro (z | z | z); exact y0 z; exact y1 z.symm; exact y3 z.2)])), fun y3 => tt1 (fin _ (by rw [e0, if_pos (Or.inr (Or.inr ⟨y2, y3⟩))]))⟩⟩⟩⟩
  · intro s1 e2
    obtain ⟨hI, hag⟩ := th hh e2
    exact R9_is hs.1 (by rw [hag 63 10 (by decide)]; exact hs.2.2.2.1) (fun _ _ => tt1 (R9_in (fun z => absurd z hy) (fun _ => tf0 (hQ _ _ hI)))) (fun z => absurd hx z)
  · intro s1 e2
    obtain ⟨hI, hag⟩ := th hh e2
    exact R9_is hs.1 (by rw [hag 63 10 (by decide)]; exact hs.2.2.2.1) (fun z _ => absurd z hx) (fun _ => tt0 (hQ _ _ hI))
theorem st_trace {c : Nat} {σ : ST} {Q : Int32 → Int32 → ST → Prop} (h : Inv c σ) (hQ : ∀ r s, Inv (c + 1) s → Q r r s) (x : Int32) : w_X8_trace σ x (fun r1 s1 => w_X9_trace s1 x (fun r2 s2 => Q r1 r2 s2)) := by
  have hh := h
  obtain ⟨n, t, hs, hst, -, -, -, -, l, hl, h1, h2, h3⟩ := h
  unfold w_X8_trace
  rw [h1]
  refine R8_w (fun hx => tt1 ?_) (fun hx => tt0 ?_)
  · rw [nm1 (by omega), k32_0] at hx
    have hx16 : vp_in x 16 := vp_lt ⟨hx.1, by omega⟩
    refine ⟨hx16, ?_⟩
    intro s1 e2
    obtain ⟨hI, hag⟩ := th hh e2
    rw [hag 63 54 (by decide), h2]
    refine R9_in (fun _ => tt1 ⟨hx16, ?_⟩) (fun z => absurd (by rw [Int32.toInt_toInt64, nm1 (by omega), k64_0]; exact hx) z)
    refine leaf hQ hI ?_
    rw [hag 89 _ (by simp)]
    exact h3 _ (N_in hx)
  · rw [nm1 (by omega), k32_0] at hx
    intro s1 e2
    obtain ⟨hI, hag⟩ := th hh e2
    rw [hag 63 54 (by decide), h2]
    exact R9_in (fun z => absurd (by rw [Int32.toInt_toInt64, nm1 (by omega), k64_0] at z; exact z) hx) (fun _ => tt0 (hQ _ _ hI))
