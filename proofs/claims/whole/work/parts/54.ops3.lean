/-! unpaid, rule, mend, stretch, count -/
theorem nn_ex {x : Int32} (h : nn x) : ∃ m : Nat, m < 2 ^ 31 ∧ x = nI m ∧ N x = m := ⟨N x, N_lt x, h, rfl⟩
theorem nn_of {x : Int32} (h : 0 ≤ x.toInt) : nn x := by
  obtain ⟨j, hj, rfl⟩ := nI_of (x := x) (by rw [Int32.lt_iff_toInt_lt, k32_0]; omega)
  exact nn_nI hj
theorem N_int {x : Int32} (h : 0 ≤ x.toInt) : (N x : Int) = x.toInt := by
  obtain ⟨j, hj, rfl⟩ := nI_of (x := x) (by rw [Int32.lt_iff_toInt_lt, k32_0]; omega)
  rw [N_nI hj, nI_toInt hj]
theorem nn_int {x : Int32} (h : nn x) : x.toInt = (N x : Int) := by
  obtain ⟨m, hm, e, e2⟩ := nn_ex h
  rw [e2, e, nI_toInt hm]
theorem nn_add {x y : Int32} (hx : nn x) (hy : nn y) (h : N x + N y < 2 ^ 31) : nn (x + y) ∧ N (x + y) = N x + N y := by
  obtain ⟨m, hm, rfl, e1⟩ := nn_ex hx
  obtain ⟨k, hk, rfl, e2⟩ := nn_ex hy
  rw [e1, e2] at h ⊢
  rw [nI_add]
  exact ⟨nn_nI h, N_nI h⟩
theorem nn_sub {x y : Int32} (hx : nn x) (hy : nn y) (h : N y ≤ N x) : nn (x - y) ∧ N (x - y) = N x - N y := by
  obtain ⟨m, hm, rfl, e1⟩ := nn_ex hx
  obtain ⟨k, hk, rfl, e2⟩ := nn_ex hy
  rw [e1, e2] at h ⊢
  rw [pk_sub h]
  exact ⟨nn_nI (by omega), N_nI (by omega)⟩
theorem le_N {x y : Int32} (hx : nn x) (hy : nn y) : x ≤ y ↔ N x ≤ N y := by
  rw [Int32.le_iff_toInt_le, nn_int hx, nn_int hy]
  omega
abbrev fpCon (a b : Nat) : Prop := a = 66 ∨ a = 67 ∨ (a = 63 ∧ 1 ≤ b ∧ b ≤ 3)
theorem fr_con {σ τ : ST} (h : mCon σ) (e : ∀ a b, fpCon a b → τ a b = σ a b) : mCon τ := by
  have e1 : τ 66 = σ 66 := funext fun b => e _ _ (Or.inl rfl)
  have e2 : τ 67 = σ 67 := funext fun b => e _ _ (Or.inr (Or.inl rfl))
  unfold mCon at h ⊢
  rw [e1, e2, e 63 1 (by decide), e 63 2 (by decide), e 63 3 (by decide)]
  exact h
abbrev fpTks (a b : Nat) : Prop := (71 ≤ a ∧ a ≤ 74) ∨ (a = 63 ∧ b = 19)
theorem fr_tks {n t : Nat} {σ τ : ST} (h : mTks n t σ) (e : ∀ a b, fpTks a b → τ a b = σ a b) : mTks n t τ := by
  intro i hi
  rw [e 71 i (by omega), e 72 i (by omega), e 73 i (by omega), e 74 i (by omega), e 63 19 (by omega)]
  exact h i hi
theorem fr_inc {t : Nat} {σ τ : ST} (h : mInc t σ) (e : ∀ b, τ 71 b = σ 71 b) : mInc t τ := by
  intro i j hi hj
  rw [e i, e j]
  exact h i j hi hj
abbrev fpHir (a b : Nat) : Prop := a = 67 ∨ a = 72 ∨ a = 73
theorem fr_hir {t : Nat} {σ τ : ST} (h : mHir t σ) (e : ∀ a b, fpHir a b → τ a b = σ a b) : mHir t τ := by
  have e1 : τ 67 = σ 67 := funext fun b => e _ _ (Or.inl rfl)
  have e2 : τ 72 = σ 72 := funext fun b => e _ _ (Or.inr (Or.inl rfl))
  have e3 : τ 73 = σ 73 := funext fun b => e _ _ (Or.inr (Or.inr rfl))
  unfold mHir at h ⊢
  rw [e1, e2, e3]
  exact h
theorem ISc.mono {n t c c' : Nat} {σ : ST} (h : ISc n t c σ) (hc : c ≤ c') : ISc n t c' σ := by
  obtain ⟨a1, a2, a3, a4, a5, a6, ⟨e, x1, x2⟩, a7⟩ := h
  exact ⟨a1, a2, a3, a4, a5, a6, ⟨e, by omega, x2⟩, a7⟩
theorem st_unpaid {c : Nat} {σ : ST} {Q : Int32 → Int32 → ST → Prop} (h : Inv c σ) (hQ : ∀ r s, Inv (c + 1) s → Q r r s) (x y z : Int32) : w_X8_unpaid σ x y z (fun r1 s1 => w_X9_unpaid s1 x y z (fun r2 s2 => Q r1 r2 s2)) := by
  have hh := h
  obtain ⟨n, t, hs, hst, htk, hmo, hru, htp, has⟩ := h
  have bad : ¬ (vp_in x n ∧ (0 ≤ y.toInt ∧ y.toInt ≤ 500) ∧ (0 ≤ z.toInt ∧ z.toInt ≤ 500)) → w_X9_unpaid σ x y z (fun r2 s2 => Q (-1000001) r2 s2) := by
    intro hb s1 e2
    obtain ⟨hI, hag⟩ := th hh e2
    refine R9_is hs.1 (by rw [hag 63 10 (by decide)]; exact hs.2.2.2.1) (fun hx _ => tt1 (R9_in (fun hy => tt1 (R9_in (fun hz => absurd ⟨hx, hy, hz⟩ hb) (fun _ => tf0 (hQ _ _ hI)))) (fun _ => tt0 (hQ _ _ hI)))) (fun _ => tt0 (hQ _ _ hI))
  refine R8_is hs.1 hs.2.2.1 (fun hx hx10 => tt1 (R8_w (fun hy => tt1 (R8_w (fun hz => tf1 ⟨hx10, ?_⟩) (fun hz => tf0 (bad (fun w => hz w.2.2))))) (fun hy => tt0 (bad (fun w => hy w.2.1))))) (fun hx => tt0 (bad (fun w => hx w.1)))
  intro k1 e1 s4 e4
  refine ⟨hx10, ?_⟩
  intro k2 e2 s5 e5 s1 e6
  have hi := in_lt hx10
  generalize hii : x.toNatClampNeg = i at *
  subst e1; subst e2; subst e4; subst e5
  have h63 : s1 63 10 = nI n := by rw [e6]; simp only [up]; simp; exact hs.2.2.2.1
  refine R9_is hs.1 h63 (fun _ _ => tt1 (R9_in (fun _ => tt1 (R9_in (fun _ => tf1 ⟨hx10, ?_⟩) (fun w => absurd hz w))) (fun w => absurd hy w))) (fun w => absurd hx w)
  intro s7 e7
  refine ⟨hx10, ?_⟩
  intro s8 e8
  subst e6; subst e7; subst e8
  refine hQ _ _ ⟨n, t, ?_, ?_, fr_tk hs.2.1 htk (fun a b hf => ?_), ?_, fr_ru hru (fun a b hf => ?_), fr_tp htp (fun a b hf => ?_), fr_as has (fun a b hf => ?_)⟩
  · exact (fr_sc hs (fun a b hf => by simp only [up]; repeat rw [if_neg (by omega)])).mono (Nat.le_succ c)
  · intro j hj
    obtain ⟨e0, e1, e2, e3, e4, e5, e6⟩ := hst j hj
    by_cases hji : j = i
    · subst hji
      simp [up, e0, e1, e2, e3, e4, show ¬ (23 + j = 69) by omega, show ¬ (23 + j = 70) by omega, show ¬ (23 + j = 63) by omega]
      constructor <;> (repeat rw [if_neg (by omega)]) <;> simp
    · simp only [up]
      repeat rw [if_neg (by omega)]
      exact ⟨e0, e1, e2, e3, e4, e5, e6⟩
  · simp only [up]; repeat rw [if_neg (by omega)]
  · obtain ⟨m1, m2, m3, m4, m5⟩ := hmo
    refine ⟨fun j hj => ?_, ?_, ?_, ?_, ?_⟩
    · obtain ⟨q1, q2, q3, q4, q5, q6, q7, q8⟩ := m1 j hj
      have hyN : nn y ∧ N y ≤ 500 := ⟨nn_of hy.1, by have := N_int hy.1; rw [k32_500] at hy; omega⟩
      have hzN : nn z ∧ N z ≤ 500 := ⟨nn_of hz.1, by have := N_int hz.1; rw [k32_500] at hz; omega⟩
      by_cases hji : j = i
      · subst hji
        simp [up]
        repeat rw [if_neg (by omega)]
        exact ⟨q1, q2, q3, q4, hyN.1, hyN.2, hzN.1, hzN.2⟩
      · simp only [up]
        repeat rw [if_neg (by omega)]
        exact ⟨q1, q2, q3, q4, q5, q6, q7, q8⟩
    · exact fr_con m2 (fun a b hf => by simp only [up]; repeat rw [if_neg (by omega)])
    · exact fr_tks m3 (fun a b hf => by simp only [up]; repeat rw [if_neg (by omega)])
    · exact fr_inc m4 (fun b => by simp only [up]; repeat rw [if_neg (by omega)])
    · exact fr_hir m5 (fun a b hf => by simp only [up]; repeat rw [if_neg (by omega)])
  · simp only [up]; repeat rw [if_neg (by omega)]
  · simp only [up]; repeat rw [if_neg (by omega)]
  · simp only [up]; repeat rw [if_neg (by omega)]
