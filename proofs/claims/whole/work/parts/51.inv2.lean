/-! the invariant and its frames -/
abbrev N (x : Int32) : Nat := x.toNatClampNeg
def nn (x : Int32) : Prop := x = nI (N x)
def sumN (f : Nat → Nat) : Nat → Nat
  | 0 => 0
  | n + 1 => sumN f n + f n
theorem N_nI {m : Nat} (h : m < 2 ^ 31) : N (nI m) = m := nI_clamp h
theorem nn_nI {m : Nat} (h : m < 2 ^ 31) : nn (nI m) := by unfold nn; rw [N_nI h]
theorem N_lt (x : Int32) : N x < 2 ^ 31 := by
  have := x.toInt_lt
  unfold N Int32.toNatClampNeg
  omega
abbrev fpSc (a b : Nat) : Prop := (a = 0 ∧ (b ≤ 7 ∨ b = 13)) ∨ (a = 2 ∧ 1 ≤ b) ∨ (a = 63 ∧ ((1 ≤ b ∧ b ≤ 10) ∨ b = 18 ∨ b = 19 ∨ b = 43))
def ISc (n t c : Nat) (σ : ST) : Prop :=
  n ≤ 10 ∧ t ≤ 30 ∧ σ 0 7 = nI n ∧ σ 63 10 = nI n ∧ σ 2 1 = nI t ∧ σ 63 18 = nI t ∧ (∃ e, e ≤ c ∧ σ 2 2 = nI e ∧ σ 63 19 = nI e) ∧
  σ 0 0 = σ 63 1 ∧ σ 0 1 = σ 63 2 ∧ σ 0 2 = σ 63 3 ∧ σ 0 3 = σ 63 4 ∧ σ 0 4 = σ 63 5 ∧ σ 0 5 = σ 63 7 ∧ σ 0 6 = σ 63 6 ∧ σ 0 13 = σ 63 43 ∧ σ 2 3 = σ 63 8 ∧ σ 2 4 = σ 63 9
theorem fr_sc {n t c : Nat} {σ τ : ST} (h : ISc n t c σ) (e : ∀ a b, fpSc a b → τ a b = σ a b) : ISc n t c τ := by
  unfold ISc at h ⊢
  rw [e 0 7 (by decide), e 63 10 (by decide), e 2 1 (by decide), e 63 18 (by decide), e 2 2 (by decide), e 63 19 (by decide), e 0 0 (by decide), e 63 1 (by decide), e 0 1 (by decide), e 63 2 (by decide), e 0 2 (by decide), e 63 3 (by decide), e 0 3 (by decide), e 63 4 (by decide), e 0 4 (by decide), e 63 5 (by decide), e 0 5 (by decide), e 63 7 (by decide), e 0 6 (by decide), e 63 6 (by decide), e 0 13 (by decide), e 63 43 (by decide), e 2 3 (by decide), e 63 8 (by decide), e 2 4 (by decide), e 63 9 (by decide)]
  exact h
abbrev fpSt (a b : Nat) : Prop := (23 ≤ a ∧ a < 33) ∨ (64 ≤ a ∧ a ≤ 70)
def ISt (σ : ST) : Prop := ∀ i, i < 10 → σ (23 + i) 0 = σ 64 i ∧ σ (23 + i) 1 = σ 65 i ∧ σ (23 + i) 2 = σ 66 i + σ 67 i ∧ σ (23 + i) 3 = σ 67 i ∧ σ (23 + i) 4 = σ 68 i ∧ σ (23 + i) 5 = σ 69 i ∧ σ (23 + i) 6 = σ 70 i
theorem fr_st {σ τ : ST} (h : ISt σ) (e : ∀ a b, fpSt a b → τ a b = σ a b) : ISt τ := by
  intro i hi
  have hS : ∀ b, τ (23 + i) b = σ (23 + i) b := fun b => e _ _ (Or.inl ⟨by omega, by omega⟩)
  have hM : ∀ a b, 64 ≤ a → a ≤ 70 → τ a b = σ a b := fun a b h1 h2 => e _ _ (Or.inr ⟨h1, h2⟩)
  rw [hS, hS, hS, hS, hS, hS, hS, hM 64 i (by omega) (by omega), hM 65 i (by omega) (by omega), hM 66 i (by omega) (by omega), hM 67 i (by omega) (by omega), hM 68 i (by omega) (by omega), hM 69 i (by omega) (by omega), hM 70 i (by omega) (by omega)]
  exact h i hi
abbrev fpTk (a b : Nat) : Prop := a = 3 ∨ (33 ≤ a ∧ a < 63) ∨ (71 ≤ a ∧ a ≤ 77)
/-- one ticket: the object at place p of the pool, the reference's row i -/
def tkEq (σ : ST) (p i : Nat) : Prop := σ (33 + p) 0 = σ 71 i ∧ σ (33 + p) 1 = σ 72 i ∧ σ (33 + p) 2 = σ 77 i ∧ σ (33 + p) 3 = σ 73 i ∧ σ (33 + p) 4 = σ 74 i ∧ σ (33 + p) 5 = σ 76 i ∧ σ (33 + p) 6 = σ 75 i
def ITk (t : Nat) (σ : ST) : Prop := ∃ pi : Nat → Nat, (∀ i, i < 30 → pi i < 30 ∧ σ 3 i = nI (pi i)) ∧ (∀ i j, i < 30 → j < 30 → pi i = pi j → i = j) ∧ ∀ i, i < t → tkEq σ (pi i) i
theorem fr_tk {t : Nat} {σ τ : ST} (ht : t ≤ 30) (h : ITk t σ) (e : ∀ a b, fpTk a b → τ a b = σ a b) : ITk t τ := by
  obtain ⟨pi, h1, h2, h3⟩ := h
  refine ⟨pi, fun i hi => ⟨(h1 i hi).1, by rw [e 3 i (Or.inl rfl)]; exact (h1 i hi).2⟩, h2, fun i hi => ?_⟩
  have hp := (h1 i (by omega)).1
  have hS : ∀ b, τ (33 + pi i) b = σ (33 + pi i) b := fun b => e _ _ (Or.inr (Or.inl ⟨by omega, by omega⟩))
  have hM : ∀ a b, 71 ≤ a → a ≤ 77 → τ a b = σ a b := fun a b h1 h2 => e _ _ (Or.inr (Or.inr ⟨h1, h2⟩))
  unfold tkEq
  rw [hS, hS, hS, hS, hS, hS, hS, hM 71 i (by omega) (by omega), hM 72 i (by omega) (by omega), hM 73 i (by omega) (by omega), hM 74 i (by omega) (by omega), hM 75 i (by omega) (by omega), hM 76 i (by omega) (by omega), hM 77 i (by omega) (by omega)]
  exact h3 i hi
abbrev fpMo (a b : Nat) : Prop := (66 ≤ a ∧ a ≤ 74) ∨ (a = 63 ∧ (b = 1 ∨ b = 2 ∨ b = 3 ∨ b = 19))
/-- the reference's own numbers -/
def mNum (σ : ST) : Prop := ∀ i, i < 10 → nn (σ 66 i) ∧ nn (σ 67 i) ∧ nn (σ 68 i) ∧ N (σ 68 i) < 1000 ∧ nn (σ 69 i) ∧ N (σ 69 i) ≤ 500 ∧ nn (σ 70 i) ∧ N (σ 70 i) ≤ 500
def mCon (σ : ST) : Prop := nn (σ 63 1) ∧ nn (σ 63 2) ∧ nn (σ 63 3) ∧ N (σ 63 1) + N (σ 63 2) + N (σ 63 3) + sumN (fun i => N (σ 66 i) + N (σ 67 i)) 10 ≤ 9000
def mTks (n t : Nat) (σ : ST) : Prop := ∀ i, i < t → nn (σ 71 i) ∧ N (σ 71 i) < N (σ 63 19) ∧ nn (σ 72 i) ∧ N (σ 72 i) < n ∧ nn (σ 73 i) ∧ 1 ≤ N (σ 73 i) ∧ N (σ 73 i) ≤ 100 ∧ nn (σ 74 i) ∧ 1 ≤ N (σ 74 i) ∧ N (σ 74 i) ≤ 12
def mInc (t : Nat) (σ : ST) : Prop := ∀ i j, i < j → j < t → N (σ 71 i) < N (σ 71 j)
def mHir (t : Nat) (σ : ST) : Prop := ∀ s, s < 10 → N (σ 67 s) = sumN (fun i => if N (σ 72 i) = s then N (σ 73 i) else 0) t
def IMo (n t : Nat) (σ : ST) : Prop := mNum σ ∧ mCon σ ∧ mTks n t σ ∧ mInc t σ ∧ mHir t σ
theorem fr_mo {n t : Nat} {σ τ : ST} (h : IMo n t σ) (e : ∀ a b, fpMo a b → τ a b = σ a b) : IMo n t τ := by
  have hM : ∀ a b, 66 ≤ a → a ≤ 74 → τ a b = σ a b := fun a b h1 h2 => e _ _ (Or.inl ⟨h1, h2⟩)
  have e1 : τ 66 = σ 66 := funext fun b => hM _ _ (by omega) (by omega)
  have e2 : τ 67 = σ 67 := funext fun b => hM _ _ (by omega) (by omega)
  have e3 : τ 68 = σ 68 := funext fun b => hM _ _ (by omega) (by omega)
  have e4 : τ 69 = σ 69 := funext fun b => hM _ _ (by omega) (by omega)
  have e5 : τ 70 = σ 70 := funext fun b => hM _ _ (by omega) (by omega)
  have e6 : τ 71 = σ 71 := funext fun b => hM _ _ (by omega) (by omega)
  have e7 : τ 72 = σ 72 := funext fun b => hM _ _ (by omega) (by omega)
  have e8 : τ 73 = σ 73 := funext fun b => hM _ _ (by omega) (by omega)
  have e9 : τ 74 = σ 74 := funext fun b => hM _ _ (by omega) (by omega)
  unfold IMo mNum mCon mTks mInc mHir at h ⊢
  rw [e1, e2, e3, e4, e5, e6, e7, e8, e9, e 63 1 (by decide), e 63 2 (by decide), e 63 3 (by decide), e 63 19 (by decide)]
  exact h
abbrev fpRu (a b : Nat) : Prop := (a = 0 ∧ (b = 11 ∨ b = 12)) ∨ (7 ≤ a ∧ a ≤ 16) ∨ (a = 63 ∧ (b = 27 ∨ b = 28 ∨ b = 31 ∨ b = 7)) ∨ (78 ≤ a ∧ a ≤ 81) ∨ (a = 20 ∧ b = 0)
def IRu0 (σ : ST) : Prop := ∃ k r q : Nat, (k = 7 ∨ k = 8) ∧ r ≤ 5 ∧ q ≤ 5 ∧ σ 0 11 = nI (k - 7) ∧ σ 0 12 = nI (8 - k) ∧ σ k 1 = σ 63 27 ∧ σ k 2 = nI r ∧ σ 63 28 = nI r ∧ σ k 3 = nI q ∧ σ 63 31 = nI q ∧
  (∀ j, j < r → σ (4 * k - 18 + 0 - 1) j = σ 78 j ∧ σ (4 * k - 18 + 1 - 1) j = σ 79 j) ∧ ∀ j, j < q → σ (4 * k - 18 + 2 - 1) j = σ 80 j ∧ σ (4 * k - 18 + 3 - 1) j = σ 81 j ∧ nn (σ 80 j) ∧ N (σ 80 j) ≤ 99999
theorem fr_ru0 {σ τ : ST} (h : IRu0 σ) (e : ∀ a b, fpRu a b → τ a b = σ a b) : IRu0 τ := by
  obtain ⟨k, r, q, hk, hr, hq, h1, h2, h3, h4, h5, h6, h7, h8, h9⟩ := h
  have hS : ∀ a b, 7 ≤ a → a ≤ 16 → τ a b = σ a b := fun a b h1 h2 => e _ _ (Or.inr (Or.inl ⟨h1, h2⟩))
  have hM : ∀ a b, 78 ≤ a → a ≤ 81 → τ a b = σ a b := fun a b h1 h2 => e _ _ (Or.inr (Or.inr (Or.inr (Or.inl ⟨h1, h2⟩))))
  refine ⟨k, r, q, hk, hr, hq, by rw [e 0 11 (by decide)]; exact h1, by rw [e 0 12 (by decide)]; exact h2, by rw [hS k 1 (by omega) (by omega), e 63 27 (by decide)]; exact h3, by rw [hS k 2 (by omega) (by omega)]; exact h4, by rw [e 63 28 (by decide)]; exact h5, by rw [hS k 3 (by omega) (by omega)]; exact h6, by rw [e 63 31 (by decide)]; exact h7, fun j hj => ?_, fun j hj => ?_⟩
  · rw [hS (4 * k - 18 + 0 - 1) j (by omega) (by omega), hS (4 * k - 18 + 1 - 1) j (by omega) (by omega), hM 78 j (by omega) (by omega), hM 79 j (by omega) (by omega)]
    exact h8 j hj
  · rw [hS (4 * k - 18 + 2 - 1) j (by omega) (by omega), hS (4 * k - 18 + 3 - 1) j (by omega) (by omega), hM 80 j (by omega) (by omega), hM 81 j (by omega) (by omega)]
    exact h9 j hj
def IRu (σ : ST) : Prop := IRu0 σ ∧ (σ 63 27 = 0 ∨ σ 63 27 = 1 ∨ σ 63 27 = 2) ∧ σ 20 0 = 0 ∧ nn (σ 63 7) ∧ N (σ 63 7) ≤ 5000
theorem fr_ru {σ τ : ST} (h : IRu σ) (e : ∀ a b, fpRu a b → τ a b = σ a b) : IRu τ := ⟨fr_ru0 h.1 e, by rw [e 63 27 (by decide)]; exact h.2.1, by rw [e 20 0 (by decide)]; exact h.2.2.1, by rw [e 63 7 (by decide)]; exact h.2.2.2⟩
abbrev fpTp (a b : Nat) : Prop := (a = 5 ∧ b = 1) ∨ (a = 63 ∧ b = 42) ∨ a = 6 ∨ a = 86
def ITp (σ : ST) : Prop := ∃ l : Nat, l ≤ 300 ∧ σ 5 1 = nI l ∧ σ 63 42 = nI l ∧ ∀ j, j < l → ∃ b : Nat, b < 256 ∧ σ 86 j = nI b ∧ σ 6 j &&& 255 = nI b
theorem fr_tp {σ τ : ST} (h : ITp σ) (e : ∀ a b, fpTp a b → τ a b = σ a b) : ITp τ := by
  obtain ⟨l, h1, h2, h3, h4⟩ := h
  refine ⟨l, h1, by rw [e 5 1 (by decide)]; exact h2, by rw [e 63 42 (by decide)]; exact h3, fun j hj => ?_⟩
  rw [e 86 j (Or.inr (Or.inr (Or.inr rfl))), e 6 j (Or.inr (Or.inr (Or.inl rfl)))]
  exact h4 j hj
abbrev fpAs (a b : Nat) : Prop := (a = 21 ∧ b = 1) ∨ (a = 63 ∧ b = 54) ∨ a = 22 ∨ a = 89
def IAs (σ : ST) : Prop := ∃ l : Nat, l ≤ 16 ∧ σ 21 1 = nI l ∧ σ 63 54 = nI l ∧ ∀ j, j < l → σ 22 j = σ 89 j
theorem fr_as {σ τ : ST} (h : IAs σ) (e : ∀ a b, fpAs a b → τ a b = σ a b) : IAs τ := by
  obtain ⟨l, h1, h2, h3, h4⟩ := h
  refine ⟨l, h1, by rw [e 21 1 (by decide)]; exact h2, by rw [e 63 54 (by decide)]; exact h3, fun j hj => ?_⟩
  rw [e 22 j (Or.inr (Or.inr (Or.inl rfl))), e 89 j (Or.inr (Or.inr (Or.inr rfl)))]
  exact h4 j hj
def Inv (c : Nat) (σ : ST) : Prop := ∃ n t : Nat, ISc n t c σ ∧ ISt σ ∧ ITk t σ ∧ IMo n t σ ∧ IRu σ ∧ ITp σ ∧ IAs σ
/-- all that any of them looks at -/
abbrev fpAll (a b : Nat) : Prop := fpSc a b ∨ fpSt a b ∨ fpTk a b ∨ fpMo a b ∨ fpRu a b ∨ fpTp a b ∨ fpAs a b
theorem Inv.fr {c c' : Nat} {σ τ : ST} (h : Inv c σ) (hc : c ≤ c') (e : ∀ a b, fpAll a b → τ a b = σ a b) : Inv c' τ := by
  obtain ⟨n, t, h1, h2, h3, h4, h5, h6, h7⟩ := h
  have ht := h1.2.1
  refine ⟨n, t, ?_, fr_st h2 (fun a b h => e a b (Or.inr (Or.inl h))), fr_tk ht h3 (fun a b h => e a b (Or.inr (Or.inr (Or.inl h)))), fr_mo h4 (fun a b h => e a b (Or.inr (Or.inr (Or.inr (Or.inl h))))), fr_ru h5 (fun a b h => e a b (Or.inr (Or.inr (Or.inr (Or.inr (Or.inl h)))))), fr_tp h6 (fun a b h => e a b (Or.inr (Or.inr (Or.inr (Or.inr (Or.inr (Or.inl h))))))), fr_as h7 (fun a b h => e a b (Or.inr (Or.inr (Or.inr (Or.inr (Or.inr (Or.inr h)))))))⟩
  have h8 := fr_sc h1 (fun a b h => e a b (Or.inl h))
  obtain ⟨a1, a2, a3, a4, a5, a6, ⟨x, x1, x2⟩, a7⟩ := h8
  exact ⟨a1, a2, a3, a4, a5, a6, ⟨x, by omega, x2⟩, a7⟩
theorem sumN_le {f : Nat → Nat} : ∀ {n i : Nat}, i < n → f i ≤ sumN f n := by
  intro n
  induction n with
  | zero => intro i h; omega
  | succ n ih =>
    intro i h
    unfold sumN
    by_cases hi : i = n
    · subst hi; omega
    · have := ih (i := i) (by omega); omega
theorem sumN_congr {f g : Nat → Nat} : ∀ {n : Nat}, (∀ i, i < n → f i = g i) → sumN f n = sumN g n := by
  intro n
  induction n with
  | zero => intro _; rfl
  | succ n ih => intro h; unfold sumN; rw [ih (fun i hi => h i (by omega)), h n (by omega)]
/-- one place changed -/
theorem sumN_upd {f g : Nat → Nat} : ∀ {n k : Nat}, k < n → (∀ i, i < n → i ≠ k → g i = f i) → sumN g n + f k = sumN f n + g k := by
  intro n
  induction n with
  | zero => intro k h; omega
  | succ n ih =>
    intro k hk h
    unfold sumN
    by_cases hkn : k = n
    · subst hkn
      rw [sumN_congr (fun i hi => h i (by omega) (by omega))]
      omega
    · have h1 := ih (k := k) (by omega) (fun i hi hne => h i (by omega) hne)
      have h2 := h n (by omega) (fun z => hkn z.symm)
      omega
