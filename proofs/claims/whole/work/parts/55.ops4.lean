/-! rule, mend, stretch, count -/
theorem st_rule {c : Nat} {σ : ST} {Q : Int32 → Int32 → ST → Prop} (h : Inv c σ) (hQ : ∀ r s, Inv (c + 1) s → Q r r s) (x y : Int32) : w_X8_rule σ x y (fun r1 s1 => w_X9_rule s1 x y (fun r2 s2 => Q r1 r2 s2)) := by
  have hh := h
  obtain ⟨n, t, hs, hst, htk, hmo, hru, htp, has⟩ := h
  obtain ⟨a1, a2, a3, a4, a5, a6, a7, b0, b1, b2, b3, b4, b5⟩ := id hs
  have sub1 : ((1 : Int32) - 1).toInt64 = 0 := by decide
  have sub0 : ((1 : Int32) - 0).toInt64 = 1 := by decide
  have p0 : ((0 : Int64).toInt ≤ (0 : Int32).toInt ∧ (0 : Int32).toInt ≤ (1 : Int64).toInt) := by decide
  have p1 : ((0 : Int64).toInt ≤ (1 : Int32).toInt ∧ (1 : Int32).toInt ≤ (1 : Int64).toInt) := by decide
  refine ⟨fun x0 => ⟨fun x1 => ?_, fun x1 => ?_⟩, fun x0 => ?_⟩
  · intro s1 e2
    obtain ⟨hI, hag⟩ := th hh e2
    refine R9_in (fun hy => ?_) (fun _ => tt0 (hQ _ _ hI))
    rw [k64_0, k64_1] at hy
    rcases (show x.toInt = 0 ∨ x.toInt = 1 by omega) with q | q
    · exact absurd (Int32.toInt_inj.mp q) x0
    · exact absurd (Int32.toInt_inj.mp q) x1
  · subst x1
    refine R8_w (fun hy => tt1 ?_) (fun hy => tt0 ?_)
    · intro x1 e1 s2 e2 s1 e3
      refine R9_in (fun _ => tt1 ?_) (fun z => absurd p1 z)
      rw [sub1]
      refine R9_in (fun _ => tf1 ?_) (fun z => absurd hy z)
      refine ⟨fun _ => ?_, fun z => absurd z (by decide)⟩
      intro x4 e4
      refine ⟨fun _ => ?_, fun z => absurd z (by decide)⟩
      intro s4 e5
      refine ⟨fun z => absurd rfl z, fun _ => ?_⟩
      intro s6 e6
      have hv : x4 = x1 := by subst e1; subst e4; subst e3; subst e2; simp [up]; exact b4.symm
      subst hv
      refine hQ _ _ ?_
      subst e6; subst e5; subst e3; subst e2
      refine ⟨n, t, ?_, fr_st hst (fun a b hf => ?_), fr_tk hs.2.1 htk (fun a b hf => ?_), fr_mo hmo (fun a b hf => ?_), fr_ru hru (fun a b hf => ?_), fr_tp htp (fun a b hf => ?_), fr_as has (fun a b hf => ?_)⟩
      · obtain ⟨e, ee, a7a, a7b⟩ := a7
        refine ⟨a1, a2, ?_, ?_, ?_, ?_, ⟨e, by omega, ?_, ?_⟩, ?_, ?_, ?_, ?_, ?_, ?_, ?_, ?_, ?_, ?_⟩ <;> simp [up] <;> first | assumption | exact b5.1 | exact b5.2.1 | exact b5.2.2.1 | exact b5.2.2.2.1 | exact b5.2.2.2.2
      all_goals (simp only [up]; repeat rw [if_neg (by omega)])
    · intro s1 e2
      obtain ⟨hI, hag⟩ := th hh e2
      refine R9_in (fun _ => tt1 ?_) (fun z => absurd p1 z)
      rw [sub1]
      exact R9_in (fun z => absurd z hy) (fun _ => tf0 (hQ _ _ hI))
  · subst x0
    refine R8_w (fun hy => tt1 ?_) (fun hy => tt0 ?_)
    · intro x1 e1 s2 e2 s1 e3
      refine R9_in (fun _ => tt1 ?_) (fun z => absurd p0 z)
      rw [sub0]
      refine R9_in (fun _ => tf1 ?_) (fun z => absurd hy z)
      refine ⟨fun z => absurd rfl z, fun _ => ?_⟩
      intro x4 e4
      refine ⟨fun z => absurd rfl z, fun _ => ?_⟩
      intro s4 e5
      refine ⟨fun _ => ?_, fun z => absurd z (by decide)⟩
      intro s6 e6
      have hv : x4 = x1 := by subst e1; subst e4; subst e3; subst e2; simp [up]; exact b3.symm
      subst hv
      refine hQ _ _ ?_
      subst e6; subst e5; subst e3; subst e2
      refine ⟨n, t, ?_, fr_st hst (fun a b hf => ?_), fr_tk hs.2.1 htk (fun a b hf => ?_), fr_mo hmo (fun a b hf => ?_), fr_ru hru (fun a b hf => ?_), fr_tp htp (fun a b hf => ?_), fr_as has (fun a b hf => ?_)⟩
      · obtain ⟨e, ee, a7a, a7b⟩ := a7
        refine ⟨a1, a2, ?_, ?_, ?_, ?_, ⟨e, by omega, ?_, ?_⟩, ?_, ?_, ?_, ?_, ?_, ?_, ?_, ?_, ?_, ?_⟩ <;> simp [up] <;> first | assumption | exact b5.1 | exact b5.2.1 | exact b5.2.2.1 | exact b5.2.2.2.1 | exact b5.2.2.2.2
      all_goals (simp only [up]; repeat rw [if_neg (by omega)])
    · refine ⟨fun _ => ?_, fun z => absurd z (by decide)⟩
      intro s1 e2
      obtain ⟨hI, hag⟩ := th hh e2
      refine R9_in (fun _ => tt1 ?_) (fun z => absurd p0 z)
      rw [sub0]
      exact R9_in (fun z => absurd z hy) (fun _ => tf0 (hQ _ _ hI))
theorem st_mend {c : Nat} {σ : ST} {Q : Int32 → Int32 → ST → Prop} (h : Inv c σ) (hQ : ∀ r s, Inv (c + 1) s → Q r r s) (x : Int32) : w_X8_mend σ x (fun r1 s1 => w_X9_mend s1 x (fun r2 s2 => Q r1 r2 s2)) := by
  have hh := h
  obtain ⟨n, t, hs, hst, htk, hmo, hru, htp, has⟩ := h
  obtain ⟨a1, a2, a3, a4, a5, a6, a7, b0, b1, b2, b3, b4, b5⟩ := id hs
  refine R8_w (fun hx => tf1 ⟨fun hle => ?_, fun hle => ?_⟩) (fun hx => tf0 ?_)
  · intro s2 e2 s3 e3 s1 e1
    refine R9_in (fun _ => tf1 ⟨fun hle2 => ?_, fun z => absurd ?_ z⟩) (fun z => absurd hx z)
    · intro s4 e4 s5 e5
      refine leaf hQ ?_ ?_
      · subst e5; subst e4; subst e1; subst e3; subst e2
        refine ⟨n, t, ?_, fr_st hst (fun a b hf => ?_), fr_tk hs.2.1 htk (fun a b hf => ?_), ?_, fr_ru hru (fun a b hf => ?_), fr_tp htp (fun a b hf => ?_), fr_as has (fun a b hf => ?_)⟩
        · obtain ⟨e, ee, a7a, a7b⟩ := a7
          refine ⟨a1, a2, ?_, ?_, ?_, ?_, ⟨e, by omega, ?_, ?_⟩, ?_, ?_, ?_, ?_, ?_, ?_, ?_, ?_, ?_, ?_⟩ <;> simp [up] <;> first | assumption | exact b5.1 | exact b5.2.1 | exact b5.2.2.1 | exact b5.2.2.2.1 | exact b5.2.2.2.2 | rw [b0] | rw [b2]
        · simp only [up]; repeat rw [if_neg (by omega)]
        · simp only [up]; repeat rw [if_neg (by omega)]
        · obtain ⟨m1, m2, m3, m4, m5⟩ := hmo
          refine ⟨?_, ?_, fr_tks m3 (fun a b hf => ?_), fr_inc m4 (fun b => ?_), fr_hir m5 (fun a b hf => ?_)⟩
          · intro j hj
            simp only [up]
            repeat rw [if_neg (by omega)]
            exact m1 j hj
          · obtain ⟨q1, q2, q3, q4⟩ := m2
            have hxn : nn x := nn_of hx.1
            rw [b2, le_N hxn q3] at hle
            obtain ⟨r1, r2⟩ := nn_sub q3 hxn hle
            obtain ⟨r3, r4⟩ := nn_add q1 hxn (by have := N_int hx.1; rw [k32_9000] at hx; omega)
            have e66 : ∀ b, up (up (up (up (up σ 0 2 (σ 0 2 - x)) 0 0 (up σ 0 2 (σ 0 2 - x) 0 0 + x)) 63 0 0) 63 3 (σ 63 3 - x)) 63 1 (σ 63 1 + x) 66 b = σ 66 b := fun b => by simp [up]
            have e67 : ∀ b, up (up (up (up (up σ 0 2 (σ 0 2 - x)) 0 0 (up σ 0 2 (σ 0 2 - x) 0 0 + x)) 63 0 0) 63 3 (σ 63 3 - x)) 63 1 (σ 63 1 + x) 67 b = σ 67 b := fun b => by simp [up]
            refine ⟨by simp [up]; exact r3, by simp [up]; exact q2, by simp [up]; exact r1, ?_⟩
            simp only [up] at *
            simp at *
            rw [r4, r2]
            omega
          all_goals (simp only [up]; repeat rw [if_neg (by omega)])
        all_goals (simp only [up]; repeat rw [if_neg (by omega)])
      · subst e5; subst e4; subst e1; subst e3; subst e2
        simp [up, b2]
    · subst e1; subst e3; subst e2
      simp [up]
      rw [← b2]; exact hle
  · intro s1 e1
    obtain ⟨hI, hag⟩ := th hh e1
    refine R9_in (fun _ => tf1 ⟨fun z => absurd ?_ hle, fun _ => hQ _ _ hI⟩) (fun z => absurd hx z)
    rw [hag 63 3 (by decide)] at z
    rw [b2]; exact z
  · intro s1 e1
    obtain ⟨hI, hag⟩ := th hh e1
    exact R9_in (fun z => absurd z hx) (fun _ => tf0 (hQ _ _ hI))
