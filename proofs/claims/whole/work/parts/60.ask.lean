/-! ask -/
def T8 (σ : ST) (L : List Int32) (s : ST) : Prop := s 21 1 = nI L.length ∧ (∀ j, j < L.length → s 22 j = L.getD j 0) ∧ ∀ a b, a ≠ 22 → ¬ (a = 21 ∧ b = 1) → s a b = σ a b
def T9 (σ : ST) (L : List Int32) (s : ST) : Prop := s 63 54 = nI L.length ∧ (∀ j, j < L.length → s 89 j = L.getD j 0) ∧ ∀ a b, a ≠ 89 → ¬ (a = 63 ∧ b = 54) → s a b = σ a b
theorem getD_app {L : List Int32} {a : Int32} {j : Nat} : (L ++ [a]).getD j 0 = if j < L.length then L.getD j 0 else if j = L.length then a else 0 := by
  simp only [List.getD_eq_getElem?_getD, List.getElem?_append]
  split
  · rfl
  · split
    · rename_i h; subst h; simp
    · rename_i h h2
      have : ([a] : List Int32)[j - L.length]? = none := by
        apply List.getElem?_eq_none; simp; omega
      rw [this]; rfl
theorem leave8 {σ s : ST} {L : List Int32} {a : Int32} {Q : ST → Prop} (h : T8 σ L s) (hl : L.length < 16) (hQ : ∀ τ, T8 σ (L ++ [a]) τ → Q τ) : w_X0_leave s a Q := by
  obtain ⟨h1, h2, h3⟩ := h
  refine ⟨fun z => absurd z ?_, fun _ => ⟨by rw [h1]; exact vp_in_nI (by omega) (by decide), fun s1 e1 s2 e2 => hQ _ ⟨?_, fun j hj => ?_, fun a b ha hb => ?_⟩⟩⟩
  · rw [h1]; exact nI_ge (a := L.length) (b := 16) (by omega) (by omega)
  · rw [h1, nI_clamp (by omega)] at e1
    subst e2 e1
    simp only [up, and_self, true_and, and_true, if_true]; repeat (first | rw [if_neg (by omega)] | rw [if_pos (by omega)])
    rw [h1, List.length_append, nI_1]; rfl
  · rw [h1, nI_clamp (by omega)] at e1
    rw [List.length_append] at hj
    simp only [List.length_cons, List.length_nil] at hj
    rw [getD_app]
    subst e2 e1
    by_cases hjl : j < L.length
    · rw [if_pos hjl]
      simp only [up, and_self, true_and, and_true, if_true]; repeat (first | rw [if_neg (by omega)] | rw [if_pos (by omega)])
      exact h2 j hjl
    · rw [if_neg hjl, if_pos (by omega)]
      obtain rfl : j = L.length := by omega
      simp only [up, and_self, true_and, and_true, if_true]; repeat (first | rw [if_neg (by omega)] | rw [if_pos (by omega)])
  · subst e2 e1
    rw [← h3 a b ha hb]
    simp only [up]; repeat rw [if_neg (by omega)]
theorem began9 {σ s : ST} {L : List Int32} {a : Int32} {Q : ST → Prop} (h : T9 σ L s) (hl : L.length < 16) (hQ : ∀ τ, T9 σ (L ++ [a]) τ → Q τ) : w_X9_began s a Q := by
  obtain ⟨h1, h2, h3⟩ := h
  refine ⟨fun z => absurd z ?_, fun _ => ⟨by rw [h1]; exact vp_in_nI (by omega) (by decide), fun s1 e1 s2 e2 => hQ _ ⟨?_, fun j hj => ?_, fun a b ha hb => ?_⟩⟩⟩
  · rw [h1]; exact nI_ge (a := L.length) (b := 16) (by omega) (by omega)
  · rw [h1, nI_clamp (by omega)] at e1
    subst e2 e1
    simp only [up, and_self, true_and, and_true, if_true]; repeat (first | rw [if_neg (by omega)] | rw [if_pos (by omega)])
    rw [h1, List.length_append, nI_1]; rfl
  · rw [h1, nI_clamp (by omega)] at e1
    rw [List.length_append] at hj
    simp only [List.length_cons, List.length_nil] at hj
    rw [getD_app]
    subst e2 e1
    by_cases hjl : j < L.length
    · rw [if_pos hjl]
      simp only [up, and_self, true_and, and_true, if_true]; repeat (first | rw [if_neg (by omega)] | rw [if_pos (by omega)])
      exact h2 j hjl
    · rw [if_neg hjl, if_pos (by omega)]
      obtain rfl : j = L.length := by omega
      simp only [up, and_self, true_and, and_true, if_true]; repeat (first | rw [if_neg (by omega)] | rw [if_pos (by omega)])
  · subst e2 e1
    rw [← h3 a b ha hb]
    simp only [up]; repeat rw [if_neg (by omega)]
def wL (k : Int32) : List Int32 := if k = 1 then [11, 10] else if k = 2 then [12, 11, 10, 21, 20] else if k = 3 then [13] else [10]
def wV (σ : ST) (i : Nat) (k : Int32) : Int32 := if k = 1 then σ 66 i + σ 67 i + 1000 else if k = 2 then σ 66 i + σ 67 i + 1000 + (σ 65 i + σ 69 i) else if k = 3 then σ 64 i else σ 66 i + σ 67 i
def mL (k : Int32) : List Int32 := if k = 2 then [21, 20] else if k = 3 then [22, 20, 13] else [20]
def mV (σ : ST) (i : Nat) (k : Int32) : Int32 := if k = 2 then σ 65 i + σ 69 i else if k = 3 then σ 65 i + σ 64 i else σ 65 i
theorem T8.st {σ s : ST} {L : List Int32} (h : T8 σ L s) (hst : ISt σ) : ISt s := fr_st hst (fun a b hf => h.2.2 a b (by omega) (by omega))
theorem T8.kv {σ s : ST} {L : List Int32} (h : T8 σ L s) (i : Nat) : kV s i = kV σ i := by
  unfold kV
  rw [h.2.2 66 i (by omega) (by omega), h.2.2 67 i (by omega) (by omega), h.2.2 69 i (by omega) (by omega)]
theorem T9.kv {σ s : ST} {L : List Int32} (h : T9 σ L s) (i : Nat) : kV s i = kV σ i := by
  unfold kV
  rw [h.2.2 66 i (by omega) (by omega), h.2.2 67 i (by omega) (by omega), h.2.2 69 i (by omega) (by omega)]
theorem worth8 {σ s : ST} {i k : Nat} {Q : Int32 → ST → Prop} (h : T8 σ [] s) (hst : ISt σ) (hi : i < 10) (hk : k = 23 + i) (hQ : ∀ τ, T8 σ (wL (kV σ i)) τ → Q (wV σ i (kV σ i)) τ) : w_X0_worthOf s k Q := by
  obtain ⟨e0, e1, e2, e3, e4, e5, e6⟩ := hst i hi
  unfold w_X0_worthOf
  rw [toldKind_e (h.st hst) hi hk, h.kv]
  generalize kV σ i = kk at hQ ⊢
  unfold wL wV at hQ
  subst hk
  refine ⟨fun c1 => ?_, fun c1 => ⟨fun c2 => ?_, fun c2 => ⟨fun c3 => ?_, fun c3 => ?_⟩⟩⟩
  · rw [if_pos c1, if_pos c1] at hQ
    refine leave8 h (by decide) (fun s1 t1 => leave8 t1 (by decide) (fun s2 t2 => ?_))
    have := hQ s2 t2
    rw [← e2, ← t2.2.2 (23 + i) 2 (by omega) (by omega)] at this
    exact this
  · rw [if_neg c1, if_neg c1, if_pos c2, if_pos c2] at hQ
    refine leave8 h (by decide) (fun s1 t1 => leave8 t1 (by decide) (fun s2 t2 => leave8 t2 (by decide) (fun s3 t3 => leave8 t3 (by decide) (fun s4 t4 => leave8 t4 (by decide) (fun s5 t5 => ?_)))))
    have := hQ s5 t5
    rw [← e2, ← e1, ← e5] at this
    dsimp only
    rw [t3.2.2 (23 + i) 2 (by omega) (by omega), t5.2.2 (23 + i) 1 (by omega) (by omega), t5.2.2 (23 + i) 5 (by omega) (by omega)]
    exact this
  · rw [if_neg c1, if_neg c1, if_neg c2, if_neg c2, if_pos c3, if_pos c3] at hQ
    refine leave8 h (by decide) (fun s1 t1 => ?_)
    have := hQ s1 t1
    rw [← e0, ← t1.2.2 (23 + i) 0 (by omega) (by omega)] at this
    exact this
  · rw [if_neg c1, if_neg c1, if_neg c2, if_neg c2, if_neg c3, if_neg c3] at hQ
    refine leave8 h (by decide) (fun s1 t1 => ?_)
    have := hQ s1 t1
    rw [← e2, ← t1.2.2 (23 + i) 2 (by omega) (by omega)] at this
    exact this
theorem mark8 {σ s : ST} {i k : Nat} {Q : Int32 → ST → Prop} (h : T8 σ [] s) (hst : ISt σ) (hi : i < 10) (hk : k = 23 + i) (hQ : ∀ τ, T8 σ (mL (kV σ i)) τ → Q (mV σ i (kV σ i)) τ) : w_X0_markOf s k Q := by
  obtain ⟨e0, e1, e2, e3, e4, e5, e6⟩ := hst i hi
  unfold w_X0_markOf
  rw [toldKind_e (h.st hst) hi hk, h.kv]
  generalize kV σ i = kk at hQ ⊢
  unfold mL mV at hQ
  subst hk
  refine ⟨fun c2 => ?_, fun c2 => ⟨fun c3 => ?_, fun c3 => ?_⟩⟩
  · rw [if_pos c2, if_pos c2] at hQ
    refine leave8 h (by decide) (fun s1 t1 => leave8 t1 (by decide) (fun s2 t2 => ?_))
    have := hQ s2 t2
    rw [← e1, ← e5] at this
    dsimp only
    rw [t2.2.2 (23 + i) 1 (by omega) (by omega), t2.2.2 (23 + i) 5 (by omega) (by omega)]
    exact this
  · rw [if_neg c2, if_neg c2, if_pos c3, if_pos c3] at hQ
    refine leave8 h (by decide) (fun s1 t1 => leave8 t1 (by decide) (fun s2 t2 => leave8 t2 (by decide) (fun s3 t3 => ?_)))
    have := hQ s3 t3
    rw [← e1, ← e0] at this
    rw [t2.2.2 (23 + i) 1 (by omega) (by omega), t3.2.2 (23 + i) 0 (by omega) (by omega)]
    exact this
  · rw [if_neg c2, if_neg c2, if_neg c3, if_neg c3] at hQ
    refine leave8 h (by decide) (fun s1 t1 => ?_)
    have := hQ s1 t1
    rw [← e1] at this
    rw [t1.2.2 (23 + i) 1 (by omega) (by omega)]
    exact this
theorem mark9 {σ s : ST} {x : Int32} {L : List Int32} {Q : Int32 → ST → Prop} (h : T9 σ L s) (hL : L.length ≤ 5) (hx : vp_in x 10) (hQ : ∀ τ, T9 σ (L ++ mL (kV σ x.toNatClampNeg)) τ → Q (mV σ x.toNatClampNeg (kV σ x.toNatClampNeg)) τ) : w_X9_marked s x Q := by
  unfold w_X9_marked
  rw [kindOf_e hx, h.kv]
  generalize kV σ x.toNatClampNeg = kk at hQ ⊢
  generalize hi : x.toNatClampNeg = i at hQ ⊢
  unfold mL mV at hQ
  by_cases c2 : kk = 2
  · have c3 : ¬ kk = 3 := by rw [c2]; decide
    rw [if_pos c2, if_pos c2] at hQ
    refine ⟨fun w => absurd c2 w, fun _ => began9 h (by omega) (fun s1 t1 => ⟨fun _ => began9 t1 (by simp; omega) (fun s2 t2 => ⟨hx, fun w => absurd c2 w, fun _ => ⟨hx, ?_⟩⟩), fun w => absurd w c3⟩)⟩
    have := hQ s2 (by rw [List.append_assoc] at t2; exact t2)
    rw [hi]
    rw [← t2.2.2 65 i (by omega) (by omega), ← t2.2.2 69 i (by omega) (by omega)] at this
    exact this
  · rw [if_neg c2, if_neg c2] at hQ
    refine ⟨fun _ => ⟨fun c3 => began9 h (by omega) (fun s1 t1 => ⟨hx, fun _ => ⟨fun _ => ?_, fun w => absurd w c3⟩, fun w => absurd w c2⟩), fun c3 => began9 h (by omega) (fun s1 t1 => began9 t1 (by simp; omega) (fun s2 t2 => ⟨hx, fun _ => ⟨fun w => absurd c3 w, fun _ => began9 t2 (by simp; omega) (fun s3 t3 => ⟨hx, ?_⟩)⟩, fun w => absurd w c2⟩))⟩, fun w => absurd w c2⟩
    · rw [if_neg c3, if_neg c3] at hQ
      have := hQ s1 t1
      rw [hi]
      unfold w_X9_marked_J68
      rw [Int32.add_zero, t1.2.2 65 i (by omega) (by omega)]
      exact this
    · rw [if_pos c3, if_pos c3] at hQ
      have := hQ s3 (by rw [List.append_assoc, List.append_assoc] at t3; exact t3)
      rw [hi]
      unfold w_X9_marked_J68
      rw [t2.2.2 65 i (by omega) (by omega), t3.2.2 64 i (by omega) (by omega)]
      exact this
theorem worth9 {σ s : ST} {x : Int32} {Q : Int32 → ST → Prop} (h : T9 σ [] s) (hx : vp_in x 10) (hQ : ∀ τ, T9 σ (wL (kV σ x.toNatClampNeg)) τ → Q (wV σ x.toNatClampNeg (kV σ x.toNatClampNeg)) τ) : w_X9_worth s x Q := by
  unfold w_X9_worth
  rw [kindOf_e hx, h.kv]
  by_cases c3 : kV σ x.toNatClampNeg = 3
  · rw [c3] at hQ ⊢
    refine ⟨fun w => absurd rfl w, fun _ => began9 h (by decide) (fun s1 t1 => ⟨hx, ?_⟩)⟩
    have := hQ s1 t1
    rw [t1.2.2 64 _ (by omega) (by omega)]
    exact this
  by_cases c2 : kV σ x.toNatClampNeg = 2
  · have hm : mL (kV σ x.toNatClampNeg) = [21, 20] := by rw [c2]; rfl
    have hmv : mV σ x.toNatClampNeg (kV σ x.toNatClampNeg) = σ 65 x.toNatClampNeg + σ 69 x.toNatClampNeg := by rw [c2]; rfl
    rw [c2] at hQ ⊢
    refine ⟨fun _ => ⟨fun w => absurd rfl w, fun _ => began9 h (by decide) (fun s1 t1 => ⟨fun _ => began9 t1 (by decide) (fun s2 t2 => began9 t2 (by decide) (fun s3 t3 => ⟨hx, hx, fun _ x1 ex1 => ⟨fun w => absurd rfl w, fun _ => mark9 t3 (by decide) hx (fun s4 t4 => ?_)⟩, fun w => absurd rfl w⟩)), fun w => absurd rfl w⟩)⟩, fun w => absurd w (by decide)⟩
    rw [hm] at t4
    rw [hmv, ex1, t3.2.2 66 _ (by omega) (by omega), t3.2.2 67 _ (by omega) (by omega)]
    exact hQ s4 t4
  by_cases c1 : kV σ x.toNatClampNeg = 1
  · rw [c1] at hQ ⊢
    refine ⟨fun _ => ⟨fun _ => ⟨fun w => absurd w (by decide), fun _ => ⟨fun w => absurd rfl w, fun _ => began9 h (by decide) (fun s2 t2 => began9 t2 (by decide) (fun s3 t3 => ⟨hx, hx, fun w => absurd w (by decide), fun _ => ⟨fun w => absurd rfl w, fun _ x1 ex1 => ⟨fun _ => ?_, fun w => absurd w (by decide)⟩⟩⟩))⟩⟩, fun w => absurd w (by decide)⟩, fun w => absurd w (by decide)⟩
    rw [ex1, t3.2.2 66 _ (by omega) (by omega), t3.2.2 67 _ (by omega) (by omega)]
    exact hQ s3 t3
  · generalize kV σ x.toNatClampNeg = kk at *
    unfold wL wV at hQ
    rw [if_neg c1, if_neg c1, if_neg c2, if_neg c2, if_neg c3, if_neg c3] at hQ
    refine ⟨fun _ => ⟨fun _ => ⟨fun w => absurd w c2, fun _ => ⟨fun _ => began9 h (by decide) (fun s3 t3 => ⟨hx, hx, fun w => absurd w c2, fun _ => ⟨fun _ x1 ex1 => ⟨fun _ => ?_, fun w => absurd w c2⟩, fun w => absurd w c1⟩⟩), fun w => absurd w c1⟩⟩, fun w => absurd w c2⟩, fun w => absurd w c3⟩
    rw [ex1, Int32.add_zero, t3.2.2 66 _ (by omega) (by omega), t3.2.2 67 _ (by omega) (by omega)]
    exact hQ s3 t3
theorem inv_ask {c : Nat} {σ s1 s2 s3 s4 τ : ST} {L : List Int32} (hL : L.length ≤ 16) (h : Inv c σ) (e1 : s1 = up σ 21 1 0) (t8 : T8 s1 L s2) (e3 : s3 = up s2 63 0 0) (e4 : s4 = up s3 63 54 0) (t9 : T9 s4 L τ) : Inv (c + 1) τ := by
  obtain ⟨n, t, hs, hst, htk, hmo, hru, htp, has⟩ := h
  have hfr : ∀ a b, ¬ (a = 63 ∧ b = 0) → ¬ (a = 63 ∧ b = 54) → ¬ (a = 21 ∧ b = 1) → a ≠ 22 → a ≠ 89 → τ a b = σ a b := by
    intro a b g1 g2 g3 g4 g5
    rw [t9.2.2 a b g5 g2, e4, up_ne _ _ g2, e3, up_ne _ _ g1, t8.2.2 a b g4 g3, e1, up_ne _ _ g3]
  have h2 : ∀ a b, a = 21 ∨ a = 22 → τ a b = s2 a b := by
    intro a b g
    rw [t9.2.2 a b (by omega) (by omega), e4, up_ne _ _ (by omega), e3, up_ne _ _ (by omega)]
  refine ⟨n, t, (fr_sc hs (fun a b hf => ?_)).mono (by omega), fr_st hst (fun a b hf => ?_), fr_tk hs.2.1 htk (fun a b hf => ?_), fr_mo hmo (fun a b hf => ?_), fr_ru hru (fun a b hf => ?_), fr_tp htp (fun a b hf => ?_), ⟨L.length, hL, ?_, t9.1, fun j hj => ?_⟩⟩
  all_goals try (exact hfr a b (by omega) (by omega) (by omega) (by omega) (by omega))
  · rw [h2 21 1 (by omega)]; exact t8.1
  · rw [h2 22 j (by omega), t8.2.1 j hj, t9.2.1 j hj]
theorem wL_le (k : Int32) : (wL k).length ≤ 16 := by
  unfold wL
  repeat' split
  all_goals decide
theorem mL_le (k : Int32) : (mL k).length ≤ 16 := by
  unfold mL
  repeat' split
  all_goals decide
theorem st_ask {c : Nat} {σ : ST} {Q : Int32 → Int32 → ST → Prop} (h : Inv c σ) (hQ : ∀ r s, Inv (c + 1) s → Q r r s) (x y : Int32) : w_X8_ask σ x y (fun r1 s1 => w_X9_ask s1 x y (fun r2 s2 => Q r1 r2 s2)) := by
  have hh := h
  obtain ⟨n, t, hs, hst, htk, hmo, hru, htp, has⟩ := h
  obtain ⟨a1, a2, a3, a4, a5⟩ := id hs
  refine R8_is a1 a3 (fun hx hx10 => tt1 (R8_w (fun hz => tf1 ?_) (fun hz => tf0 ?_))) (fun hx => tt0 ?_)
  · intro s1 e1
    refine ⟨hx10, fun k1 ek1 => ?_⟩
    have hi : x.toNatClampNeg < 10 := in_lt hx10
    have t0 : T8 s1 [] s1 := ⟨by subst e1; simp [up]; rfl, fun j hj => absurd hj (by simp), fun _ _ _ _ => rfl⟩
    have ag1 : ∀ a b, ¬ (a = 21 ∧ b = 1) → s1 a b = σ a b := fun a b g => by subst e1; exact up_ne _ _ g
    have hst1 : ISt s1 := fr_st hst (fun a b hf => ag1 a b (by omega))
    have hk : ∀ (s4 : ST), (∀ a b, ¬ (a = 21 ∧ b = 1) → a ≠ 22 → ¬ (a = 63 ∧ b = 0) → ¬ (a = 63 ∧ b = 54) → s4 a b = σ a b) → kV s4 x.toNatClampNeg = kV s1 x.toNatClampNeg := by
      intro s4 g
      unfold kV
      rw [g 66 _ (by omega) (by omega) (by omega) (by omega), g 67 _ (by omega) (by omega) (by omega) (by omega), g 69 _ (by omega) (by omega) (by omega) (by omega), ag1 66 _ (by omega), ag1 67 _ (by omega), ag1 69 _ (by omega)]
    have fin : ∀ (L : List Int32) (s2 : ST) (R : Int32), T8 s1 L s2 → (∀ s3 s4 : ST, s3 = up s2 63 0 0 → s4 = up s3 63 54 0 → T9 s4 [] s4 → (∀ a b, ¬ (a = 21 ∧ b = 1) → a ≠ 22 → ¬ (a = 63 ∧ b = 0) → ¬ (a = 63 ∧ b = 54) → s4 a b = σ a b) → (¬ y = 0 → w_X9_marked s4 x (fun r s => Q R r s)) ∧ (y = 0 → w_X9_worth s4 x (fun r s => Q R r s))) → w_X9_ask s2 x y (fun r s => Q R r s) := by
      intro L s2 R t8 hg s3 e3
      have h10 : s3 63 10 = nI n := by rw [e3, up_ne _ _ (by omega), t8.2.2 63 10 (by omega) (by omega), ag1 63 10 (by omega)]; exact a4
      refine R9_is a1 h10 (fun _ _ => tt1 (R9_in (fun _ => tf1 ?_) (fun w => absurd hz w))) (fun w => absurd hx w)
      intro s4 e4
      refine hg s3 s4 e3 e4 ⟨by subst e4; simp [up]; rfl, fun j hj => absurd hj (by simp), fun _ _ _ _ => rfl⟩ (fun a b g1 g2 g3 g4 => ?_)
      rw [e4, up_ne _ _ g4, e3, up_ne _ _ g3, t8.2.2 a b g2 g1, ag1 a b g1]
    refine ⟨fun hy => mark8 t0 hst1 hi ek1 (fun s2 t2 => fin _ s2 _ t2 (fun s3 s4 e3 e4 t9 g => ⟨fun _ => mark9 t9 (by decide) hx10 (fun τ tτ => ?_), fun w => absurd w hy⟩)), fun hy => worth8 t0 hst1 hi ek1 (fun s2 t2 => fin _ s2 _ t2 (fun s3 s4 e3 e4 t9 g => ⟨fun w => absurd hy w, fun _ => worth9 t9 hx10 (fun τ tτ => ?_)⟩))⟩
    · rw [hk s4 g, List.nil_append] at tτ
      rw [hk s4 g]
      refine leaf hQ (inv_ask (mL_le _) hh e1 t2 e3 e4 tτ) ?_
      unfold mV
      rw [g 65 _ (by omega) (by omega) (by omega) (by omega), g 69 _ (by omega) (by omega) (by omega) (by omega), g 64 _ (by omega) (by omega) (by omega) (by omega), ag1 65 _ (by omega), ag1 69 _ (by omega), ag1 64 _ (by omega)]
    · rw [hk s4 g] at tτ
      rw [hk s4 g]
      refine leaf hQ (inv_ask (wL_le _) hh e1 t2 e3 e4 tτ) ?_
      unfold wV
      rw [g 65 _ (by omega) (by omega) (by omega) (by omega), g 69 _ (by omega) (by omega) (by omega) (by omega), g 64 _ (by omega) (by omega) (by omega) (by omega), g 66 _ (by omega) (by omega) (by omega) (by omega), g 67 _ (by omega) (by omega) (by omega) (by omega), ag1 65 _ (by omega), ag1 69 _ (by omega), ag1 64 _ (by omega), ag1 66 _ (by omega), ag1 67 _ (by omega)]
  · intro s1 e1
    obtain ⟨hI, hag⟩ := th hh e1
    have h10 : s1 63 10 = nI n := by rw [hag 63 10 (by decide)]; exact a4
    exact R9_is a1 h10 (fun _ _ => tt1 (R9_in (fun w => absurd w hz) (fun _ => tf0 (hQ _ _ hI)))) (fun _ => tt0 (hQ _ _ hI))
  · intro s1 e1
    obtain ⟨hI, hag⟩ := th hh e1
    have h10 : s1 63 10 = nI n := by rw [hag 63 10 (by decide)]; exact a4
    exact R9_is a1 h10 (fun w => absurd w hx) (fun _ => tt0 (hQ _ _ hI))
