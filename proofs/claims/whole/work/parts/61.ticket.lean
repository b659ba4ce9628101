/-! ticket, shift -/
theorem R8_find {s : ST} {t : Nat} {pi : Nat → Nat} (ht : t ≤ 30) (h21 : s 2 1 = nI t) (hp : ∀ i, i < 30 → pi i < 30 ∧ s 3 i = nI (pi i)) (hk : ∀ i, i < t → s (33 + pi i) 0 = s 71 i) {x : Int32} {Q : Option Nat → ST → Prop} (h1 : ∀ i, i < t → s 71 i = x → Q (some (33 + pi i)) s) (h0 : (∀ i, i < t → ¬ s 71 i = x) → Q none s) : w_X7_find s x Q := by
  have go : ∀ (d i : Nat), i + d = t → (∀ j, j < i → ¬ s 71 j = x) → w_X7_find_L2 x (fun (s1 : ST) => Q none s1) Q (d + 1) s (nI i) := by
    intro d
    induction d with
    | zero =>
      intro i hi hj
      obtain rfl : i = t := by omega
      exact ⟨fun _ => h0 hj, fun z => absurd (by rw [h21]; exact Int32.le_refl _) z⟩
    | succ d ih =>
      intro i hi hj
      have hv : vp_in (nI i) 30 := vp_in_nI (by omega) (by decide)
      obtain ⟨p1, p2⟩ := hp i (by omega)
      refine ⟨fun z => absurd z (by rw [h21]; exact nI_ge (a := i) (b := t) (by omega) (by omega)), fun _ => ⟨hv, ?_⟩⟩
      rw [nI_clamp (show i < 2 ^ 31 by omega), p2, nI_clamp (show pi i < 2 ^ 31 by omega)]
      refine ⟨p1, fun k1 e1 => ⟨fun c1 x1 ex1 => ?_, fun c1 => ⟨hv, p1, fun k2 e2 => ?_⟩⟩⟩
      · rw [e1, hk i (by omega)] at c1
        rw [ex1, nI_1]
        exact ih (i + 1) (by omega) (fun j hj2 => by
          by_cases e : j = i
          · rw [e]; exact c1
          · exact hj j (by omega))
      · rw [e1, hk i (by omega)] at c1
        rw [e2]
        exact h1 i (by omega) c1
  exact ⟨t + 1, go t 0 (by omega) (fun j hj => absurd hj (by omega))⟩
theorem R9_slot {s : ST} {t : Nat} (ht : t ≤ 30) (h18 : s 63 18 = nI t) {x : Int32} {Q : Int32 → ST → Prop} (h1 : ∀ i, i < t → s 71 i = x → Q (nI i) s) (h0 : (∀ i, i < t → ¬ s 71 i = x) → Q (-1000000) s) : w_X9_slotOf s x Q := by
  have go : ∀ (d i : Nat) (v : Int32), i + d = t → ((v = (-1000000) ∧ ∀ j, j < i → ¬ s 71 j = x) ∨ ∃ j, j < i ∧ s 71 j = x ∧ v = nI j) → w_X9_slotOf_L5 x (fun (s1 : ST) (x3 : Int32) => Q x3 s1) Q (d + 1) s v (nI i) := by
    intro d
    induction d with
    | zero =>
      intro i v hi hv
      obtain rfl : i = t := by omega
      refine ⟨fun _ => ?_, fun z => absurd (by rw [h18]; exact Int32.le_refl _) z⟩
      rcases hv with ⟨rfl, hj⟩ | ⟨j, hj, hj2, rfl⟩
      · exact h0 hj
      · exact h1 j hj hj2
    | succ d ih =>
      intro i v hi hv
      refine ⟨fun z => absurd z (by rw [h18]; exact nI_ge (a := i) (b := t) (by omega) (by omega)), fun _ => ⟨vp_in_nI (by omega) (by decide), ?_⟩⟩
      rw [nI_clamp (show i < 2 ^ 31 by omega)]
      refine ⟨fun c1 x1 ex1 => ?_, fun c1 x1 ex1 => ?_⟩
      · rw [ex1, nI_1]
        refine ih (i + 1) v (by omega) ?_
        rcases hv with ⟨rfl, hj⟩ | ⟨j, hj, hj2, rfl⟩
        · exact Or.inl ⟨rfl, fun j hj2 => by
            by_cases e : j = i
            · rw [e]; exact c1
            · exact hj j (by omega)⟩
        · exact Or.inr ⟨j, by omega, hj2, rfl⟩
      · rw [ex1, nI_1]
        exact ih (i + 1) (nI i) (by omega) (Or.inr ⟨i, by omega, c1, rfl⟩)
  exact ⟨t + 1, go t 0 (-1000000) (by omega) (Or.inl ⟨rfl, fun j hj => absurd hj (by omega)⟩)⟩
theorem inc_ne {t : Nat} {σ : ST} (h : mInc t σ) {i j : Nat} (hi : i < t) (hj : j < t) (e : σ 71 i = σ 71 j) : i = j := by
  by_cases h1 : i < j
  · have := h i j h1 hj; rw [e] at this; omega
  · by_cases h2 : j < i
    · have := h j i h2 hi; rw [e] at this; omega
    · omega
theorem nI_none {i : Nat} (h : i < 100) : ¬ nI i = (-1000000) := by
  intro e
  have := congrArg Int32.toInt e
  rw [nI_toInt (by omega), show (-1000000 : Int32).toInt = -1000000 from rfl] at this
  omega
theorem st_ticket {c : Nat} {σ : ST} {Q : Int32 → Int32 → ST → Prop} (h : Inv c σ) (hQ : ∀ r s, Inv (c + 1) s → Q r r s) (x y : Int32) : w_X8_ticket σ x y (fun r1 s1 => w_X9_ticket s1 x y (fun r2 s2 => Q r1 r2 s2)) := by
  have hh := h
  obtain ⟨n, t, hs, hst, htk, hmo, hru, htp, has⟩ := h
  obtain ⟨a1, a2, a3, a4, a5, a6, a7⟩ := id hs
  obtain ⟨pi, p1, p2, p3⟩ := id htk
  refine R8_find a2 a5 p1 (fun i hi => (p3 i hi).1) (fun i hi hix => ⟨fun w => absurd w (by simp), fun k1 ek1 => ?_⟩) (fun hn => ⟨fun _ => ?_, fun k w => absurd w (by simp)⟩)
  · injection ek1 with ek1
    obtain ⟨q0, q1, q2, q3, q4, q5, q6⟩ := p3 i hi
    have h30 : vp_in (nI i) 30 := vp_in_nI (by omega) (by decide)
    have go : ∀ R : Int32, (y = 0 → R = σ 72 i) → (y = 1 → R = σ 73 i) → (y = 2 → R = σ 74 i) → (y = 3 → R = σ 75 i) → (¬ (0 ≤ y.toInt ∧ y.toInt ≤ 3) → R = (-1000001)) → w_X9_ticket σ x y (fun r2 s2 => Q R r2 s2) := by
      intro R g0 g1 g2 g3 g4 s1 e1
      obtain ⟨hI, hag⟩ := th hh e1
      refine R9_slot a2 (by rw [hag 63 18 (by decide)]; exact a6) (fun j hj hjx => ⟨fun w => absurd w (nI_none (by omega)), fun _ => ?_⟩) (fun w => absurd (by rw [hag 71 i (by simp)]; exact hix) (w i hi))
      rw [hag 71 j (by simp)] at hjx
      obtain rfl : i = j := inc_ne hmo.2.2.2.1 hi hj (hix.trans hjx.symm)
      rw [nI_clamp (show i < 2 ^ 31 by omega)]
      refine R9_in (fun hz => tf1 ⟨fun c0 => ⟨fun c1 => ⟨fun c2 => ⟨h30, leaf hQ hI ((g3 ?_).trans (hag 75 i (by simp)).symm)⟩, fun c2 => ⟨h30, leaf hQ hI ((g2 c2).trans (hag 74 i (by simp)).symm)⟩⟩, fun c1 => ⟨h30, leaf hQ hI ((g1 c1).trans (hag 73 i (by simp)).symm)⟩⟩, fun c0 => ⟨h30, leaf hQ hI ((g0 c0).trans (hag 72 i (by simp)).symm)⟩⟩) (fun hz => tf0 (leaf hQ hI (g4 hz)))
      apply Int32.toInt_inj.mp
      rw [k64_0, k64_3] at hz
      have e0 : ¬ y.toInt = 0 := fun e => c0 (Int32.toInt_inj.mp e)
      have e1 : ¬ y.toInt = 1 := fun e => c1 (Int32.toInt_inj.mp e)
      have e2 : ¬ y.toInt = 2 := fun e => c2 (Int32.toInt_inj.mp e)
      rw [k32_3]; omega
    rw [ek1.symm]
    refine ⟨okT (p1 i (by omega)).1, fun c0 => ?_, fun c0 => ⟨fun c1 => ?_, fun c1 => ⟨fun c2 => ?_, fun c2 => ⟨fun c3 => ?_, fun c3 => ?_⟩⟩⟩⟩
    · subst c0
      exact go _ (fun _ => q1) (fun w => absurd w (by decide)) (fun w => absurd w (by decide)) (fun w => absurd w (by decide)) (fun w => absurd (by decide) w)
    · subst c1
      exact go _ (fun w => absurd w (by decide)) (fun _ => q3) (fun w => absurd w (by decide)) (fun w => absurd w (by decide)) (fun w => absurd (by decide) w)
    · subst c2
      exact go _ (fun w => absurd w (by decide)) (fun w => absurd w (by decide)) (fun _ => q4) (fun w => absurd w (by decide)) (fun w => absurd (by decide) w)
    · subst c3
      exact go _ (fun w => absurd w (by decide)) (fun w => absurd w (by decide)) (fun w => absurd w (by decide)) (fun _ => q6) (fun w => absurd (by decide) w)
    · exact go _ (fun w => absurd w c0) (fun w => absurd w c1) (fun w => absurd w c2) (fun w => absurd w c3) (fun _ => rfl)
  · intro s1 e1
    obtain ⟨hI, hag⟩ := th hh e1
    exact R9_slot a2 (by rw [hag 63 18 (by decide)]; exact a6) (fun j hj hjx => absurd (by rw [← hag 71 j (by simp)]; exact hjx) (hn j hj)) (fun _ => ⟨fun _ => hQ _ _ hI, fun w => absurd rfl w⟩)
