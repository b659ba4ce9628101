theorem st_shift {c : Nat} {σ : ST} {Q : Int32 → Int32 → ST → Prop} (h : Inv c σ) (hQ : ∀ r s, Inv (c + 1) s → Q r r s) (x y : Int32) : w_X8_shift σ x y (fun r1 s1 => w_X9_shift s1 x y (fun r2 s2 => Q r1 r2 s2)) := by
  have hh := h
  obtain ⟨n, t, hs, hst, htk, hmo, hru, htp, has⟩ := h
  obtain ⟨a1, a2, a3, a4, a5, a6, a7⟩ := id hs
  obtain ⟨pi, p1, p2, p3⟩ := id htk
  obtain ⟨k, r, q, hk, hr, hq, h1, h2, h3, h4, h5, h6, h7, h8, h9⟩ := hru.1
  have hkN : (σ 0 11).toNatClampNeg = k - 7 := by rw [h1]; exact nI_clamp (by omega)
  have hk7 : 7 + (k - 7) = k := by omega
  refine R8_find a2 a5 p1 (fun i hi => (p3 i hi).1) (fun i hi hix => ⟨fun w => absurd w (by simp), fun k1 ek1 => ?_⟩) (fun hn => ⟨fun _ => ?_, fun k w => absurd w (by simp)⟩)
  · injection ek1 with ek1
    obtain ⟨q0, q1, q2, q3, q4, q5, q6⟩ := p3 i hi
    have hpi := (p1 i (by omega)).1
    have bad : ∀ R : Int32, (¬ vp_in y n → R = (-1000001)) → (vp_in y n → σ 72 i = y → R = (-1000001)) → (vp_in y n → ¬ σ 72 i = y → ¬ (σ 63 27 = 2 ∨ (σ 63 27 = 1 ∧ σ 65 y.toNatClampNeg = σ 77 i)) → R = (-1000002)) → (vp_in y n → ¬ σ 72 i = y → (σ 63 27 = 2 ∨ (σ 63 27 = 1 ∧ σ 65 y.toNatClampNeg = σ 77 i)) → R = (-1000003) ∧ ¬ σ 73 i ≤ σ 66 y.toNatClampNeg) → w_X9_shift σ x y (fun r2 s2 => Q R r2 s2) := by
      intro R g1 g2 g3 g4
      obtain ⟨hI, hag⟩ := th hh rfl
      refine m_shift rfl a1 a2 (by rw [hag 63 10 (by decide)]; exact a4) (by rw [hag 63 18 (by decide)]; exact a6) hi (by rw [hag 71 i (by simp)]; exact hix) (fun j hj hjx => ?_) (by rw [hag 63 27 (by decide)]; exact hru.2.1) (fun w => leaf hQ hI (g1 w)) (fun w w2 => leaf hQ hI (g2 w (by rw [← hag 72 i (by simp)]; exact w2))) (fun w w2 w3 => leaf hQ hI (g3 w (by rw [← hag 72 i (by simp)]; exact w2) (by rw [← hag 63 27 (by simp), ← hag 65 _ (by simp), ← hag 77 i (by simp)]; exact w3))) (fun w w2 w3 => ?_)
      · rw [hag 71 j (by simp)] at hjx
        exact inc_ne hmo.2.2.2.1 hj hi (hjx.trans hix.symm)
      · obtain ⟨e, e2⟩ := g4 w (by rw [← hag 72 i (by simp)]; exact w2) (by rw [← hag 63 27 (by simp), ← hag 65 _ (by simp), ← hag 77 i (by simp)]; exact w3)
        refine ⟨by rw [vp_in_iff] at w ⊢; omega, vp_in_nI (by omega) (by decide), ?_⟩
        rw [nI_clamp (show i < 2 ^ 31 by omega)]
        refine ⟨fun w4 => absurd ?_ e2, fun _ => leaf hQ hI e⟩
        rw [← hag 73 i (by simp), ← hag 66 _ (by simp)]; exact w4
    subst ek1
    refine ⟨okT hpi, R8_is a1 a3 (fun hy hy10 => tt1 ?_) (fun hy => tt0 (bad _ (fun _ => rfl) (fun w => absurd w hy) (fun w => absurd w hy) (fun w => absurd w hy)))⟩
    rw [q1]
    refine ⟨fun hne => ⟨hy10, fun k2 ek2 => ⟨by rw [hkN]; omega, fun k3 ek3 => ?_⟩⟩, fun he => bad _ (fun _ => rfl) (fun _ _ => rfl) (fun _ w => absurd he w) (fun _ w => absurd he w)⟩
    have hj10 : y.toNatClampNeg < 10 := in_lt hy10
    obtain ⟨g0, g1, g2, g3, g4, g5, g6⟩ := hst _ hj10
    rw [hkN, hk7] at ek3
    subst ek3
    have hold : ∀ Q' : Int32 → ST → Prop, ((σ 63 27 = 2 ∨ (σ 63 27 = 1 ∧ σ 65 y.toNatClampNeg = σ 77 i)) → Q' 1 σ) → (¬ (σ 63 27 = 2 ∨ (σ 63 27 = 1 ∧ σ 65 y.toNatClampNeg = σ 77 i)) → Q' 0 σ) → w_X3_holdsIn σ k3 (σ k2 1) (σ (33 + pi i) 2) Q' := by
      intro Q' z1 z0
      unfold w_X3_holdsIn
      rw [h3, ek2, g1, q2]
      refine ⟨fun w => z1 (Or.inl w), fun w => ⟨fun w2 => z0 (by rintro (v | ⟨v, -⟩); exact w v; exact w2 v), fun w2 => ⟨fun w3 => z0 (by rintro (v | ⟨-, v⟩); exact w v; exact w3 v), fun w3 => z1 (Or.inr ⟨w2, w3⟩)⟩⟩⟩
    refine hold _ (fun hh1 => tf1 ?_) (fun hh0 => tf0 (bad _ (fun w => absurd hy w) (fun _ w => absurd w hne) (fun _ _ _ => rfl) (fun _ _ w => absurd w hh0)))
    have hfree : σ k2 2 - σ k2 3 = σ 66 y.toNatClampNeg := by rw [ek2, g2, g3, add_sub_r]
    obtain ⟨m1, m2, m3, m4, m5⟩ := id hmo
    obtain ⟨u1, u2, u3, u4, u5, u6, u7, -⟩ := m3 i hi
    refine ⟨fun hle => ?_, fun hle => bad _ (fun w => absurd hy w) (fun _ w => absurd w hne) (fun _ _ w => absurd hh1 w) (fun _ _ _ => ⟨rfl, by rw [q3, hfree] at hle; exact hle⟩)⟩
    rw [q3, hfree] at hle
    rw [q1]
    have hf10 : vp_in (σ 72 i) 10 := by rw [u3]; exact vp_in_nI (by omega) (by decide)
    have hfN : (σ 72 i).toNatClampNeg < 10 := in_lt hf10
    have hfj : (σ 72 i).toNatClampNeg ≠ y.toNatClampNeg := N_ne hf10 hy10 hne
    refine ⟨hf10, fun k4 ek4 s5 e5 s6 e6 s7 e7 => ?_⟩
    obtain ⟨f0, f1, f2, f3, f4, f5, f6⟩ := hst _ hfN
    have hjn : y.toNatClampNeg < n := in_lt hy
    have hyn : nn y := nn_of (by rw [vp_in_iff] at hy; exact hy.1)
    rw [q3] at e5
    generalize hfe : (σ 72 i).toNatClampNeg = f at *
    generalize hje : y.toNatClampNeg = j at *
    have s53 : s5 (33 + pi i) 3 = σ 73 i := by subst e5; simp only [up]; rw [if_neg (by omega)]; exact q3
    have s52 : s5 k2 3 = σ 67 j := by subst e5; simp only [up]; rw [if_neg (by omega), ek2]; exact g3
    rw [s53, s52] at e6
    rw [ek4, f3] at e5
    rw [ek2] at e6
    have hag7 : ∀ a b, ¬ (a = 23 + f ∧ b = 3) → ¬ (a = 23 + j ∧ b = 3) → ¬ (a = 33 + pi i ∧ b = 1) → s7 a b = σ a b := fun a b z1 z2 z3 => by
      rw [e7, up_ne _ _ z3, e6, up_ne _ _ z2, e5, up_ne _ _ z1]
    have ag1 : ∀ s1 : ST, s1 = up s7 63 0 0 → ∀ a b, ¬ (a = 63 ∧ b = 0) → ¬ (a = 23 + f ∧ b = 3) → ¬ (a = 23 + j ∧ b = 3) → ¬ (a = 33 + pi i ∧ b = 1) → s1 a b = σ a b := fun s1 e1 a b z0 z1 z2 z3 => by
      rw [e1, up_ne _ _ z0, hag7 a b z1 z2 z3]
    have ag := ag1 _ rfl
    generalize es1 : up s7 63 0 0 = s1 at ag
    refine m_shift es1.symm a1 a2 (by rw [ag 63 10 (by omega) (by omega) (by omega) (by omega)]; exact a4) (by rw [ag 63 18 (by omega) (by omega) (by omega) (by omega)]; exact a6) hi (by rw [ag 71 i (by omega) (by omega) (by omega) (by omega)]; exact hix) (fun j hj hjx => ?_) (by rw [ag 63 27 (by omega) (by omega) (by omega) (by omega)]; exact hru.2.1) (fun w => absurd hy w) (fun w w2 => absurd (by rw [← ag 72 i (by omega) (by omega) (by omega) (by omega)]; exact w2) hne) (fun w w2 w3 => absurd ?_ w3) (fun w w2 w3 => ?_)
    · rw [ag 71 j (by omega) (by omega) (by omega) (by omega)] at hjx
      exact inc_ne hmo.2.2.2.1 hj hi (hjx.trans hix.symm)
    · rw [hje, ag 63 27 (by omega) (by omega) (by omega) (by omega), ag 65 _ (by omega) (by omega) (by omega) (by omega), ag 77 i (by omega) (by omega) (by omega) (by omega)]; exact hh1
    · have h30 : vp_in (nI i) 30 := vp_in_nI (by omega) (by decide)
      refine ⟨hy10, h30, ?_⟩
      rw [nI_clamp (show i < 2 ^ 31 by omega), hje, ag 73 i (by omega) (by omega) (by omega) (by omega), ag 66 j (by omega) (by omega) (by omega) (by omega), ag 72 i (by omega) (by omega) (by omega) (by omega), hfe, ag 66 f (by omega) (by omega) (by omega) (by omega)]
      refine ⟨fun _ => ⟨h30, hf10, h30, hf10, fun r4 er4 => ?_⟩, fun w => absurd hle w⟩
      have r72 : r4 72 i = σ 72 i := by rw [er4, up_ne _ _ (by omega), ag 72 i (by omega) (by omega) (by omega) (by omega)]
      have r73 : r4 73 i = σ 73 i := by rw [er4, up_ne _ _ (by omega), ag 73 i (by omega) (by omega) (by omega) (by omega)]
      have r67 : r4 67 f = σ 67 f := by rw [er4, up_ne _ _ (by omega), ag 67 f (by omega) (by omega) (by omega) (by omega)]
      rw [r72, hfe, r73, r67]
      refine ⟨h30, hf10, h30, hf10, fun r5 er5 => ?_⟩
      have t66 : r5 66 j = σ 66 j := by rw [er5, up_ne _ _ (by omega), er4, up_ne _ _ (by omega), ag 66 j (by omega) (by omega) (by omega) (by omega)]
      have t73 : r5 73 i = σ 73 i := by rw [er5, up_ne _ _ (by omega), r73]
      rw [t66, t73]
      refine ⟨hy10, h30, hy10, fun r6 er6 => ?_⟩
      have v67 : r6 67 j = σ 67 j := by rw [er6, up_ne _ _ (by omega), er5, up_ne _ _ (by omega), er4, up_ne _ _ (by omega), ag 67 j (by omega) (by omega) (by omega) (by omega)]
      have v73 : r6 73 i = σ 73 i := by rw [er6, up_ne _ _ (by omega), t73]
      rw [v67, v73]
      refine ⟨hy10, h30, hy10, fun r7 er7 => ⟨h30, fun r8 er8 => ?_⟩⟩
      have fr8 : ∀ a b, ¬ (a = 72 ∧ b = i) → ¬ (a = 67 ∧ b = j) → ¬ (a = 66 ∧ b = j) → ¬ (a = 67 ∧ b = f) → ¬ (a = 66 ∧ b = f) → r8 a b = s1 a b := fun a b z1 z2 z3 z4 z5 => by
        rw [er8, up_ne _ _ z1, er7, up_ne _ _ z2, er6, up_ne _ _ z3, er5, up_ne _ _ z4, er4, up_ne _ _ z5]
      have hr67 : ∀ k, k < 10 → r8 67 k = if k = j then σ 67 k + σ 73 i else if k = f then σ 67 k - σ 73 i else σ 67 k := fun k hk => by
        by_cases k1 : k = j
        · rw [if_pos k1, k1, er8, up_ne _ _ (by omega), er7, up_self]
        · rw [if_neg k1]
          by_cases k2 : k = f
          · rw [if_pos k2, k2, er8, up_ne _ _ (by omega), er7, up_ne _ _ (by omega), er6, up_ne _ _ (by omega), er5, up_self]
          · rw [if_neg k2, fr8 67 k (by omega) (by omega) (by omega) (by omega) (by omega), ag 67 k (by omega) (by omega) (by omega) (by omega)]
      have hr66 : ∀ k, k < 10 → r8 66 k = if k = j then σ 66 k - σ 73 i else if k = f then σ 66 k + σ 73 i else σ 66 k := fun k hk => by
        by_cases k1 : k = j
        · rw [if_pos k1, k1, er8, up_ne _ _ (by omega), er7, up_ne _ _ (by omega), er6, up_self]
        · rw [if_neg k1]
          by_cases k2 : k = f
          · rw [if_pos k2, k2, er8, up_ne _ _ (by omega), er7, up_ne _ _ (by omega), er6, up_ne _ _ (by omega), er5, up_ne _ _ (by omega), er4, up_self]
          · rw [if_neg k2, fr8 66 k (by omega) (by omega) (by omega) (by omega) (by omega), ag 66 k (by omega) (by omega) (by omega) (by omega)]
      have hs3 : ∀ k, k < 10 → r8 (23 + k) 3 = if k = j then σ 67 k + σ 73 i else if k = f then σ 67 k - σ 73 i else σ 67 k := fun k hk => by
        rw [fr8 (23 + k) 3 (by omega) (by omega) (by omega) (by omega) (by omega), ← es1, up_ne _ _ (by omega), e7, up_ne _ _ (by omega)]
        by_cases k1 : k = j
        · rw [if_pos k1, k1, e6, up_self]
        · rw [if_neg k1, e6, up_ne _ _ (by omega)]
          by_cases k2 : k = f
          · rw [if_pos k2, k2, e5, up_self]
          · rw [if_neg k2, e5, up_ne _ _ (by omega)]
            exact (hst k hk).2.2.2.1
      refine leaf hQ (inv_shift (i := i) (f := f) (j := j) (y := y) hs hst hmo hru htp has p1 p2 p3 hi hfe.symm hje.symm hjn hyn hfj ((le_N u5 (m1 j hj10).1).mp hle) (fun a b z1 z2 z3 z4 z5 z6 => ?_) (fun k hk => ?_) (fun k hk => ?_) (fun k hk => ?_) ?_ ?_) rfl
      · rw [fr8 a b z6 (by omega) (by omega) (by omega) (by omega), ag a b z1 (by omega) (by omega) z5]
      · rw [hs3 k hk, hr67 k hk]
      · exact hr66 k hk
      · exact hr67 k hk
      · rw [fr8 _ _ (by omega) (by omega) (by omega) (by omega) (by omega), ← es1, up_ne _ _ (by omega), e7, up_self]
      · rw [er8, up_self]
  · intro s1 e1
    obtain ⟨hI, hag⟩ := th hh e1
    exact R9_slot a2 (by rw [hag 63 18 (by decide)]; exact a6) (fun j hj hjx => absurd (by rw [← hag 71 j (by simp)]; exact hjx) (hn j hj)) (fun _ => ⟨fun _ => hQ _ _ hI, fun w => absurd rfl w⟩)
