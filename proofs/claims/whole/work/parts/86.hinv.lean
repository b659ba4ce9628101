/-! hour: from the invariant to the lists, and back -/
def tkL (t : Nat) (σ : ST) : List Tk := (List.range t).map (fun i => fun j => σ (rc j) i)
theorem tkL_get {t : Nat} {σ : ST} {i : Nat} {T : Tk} (h : (tkL t σ)[i]? = some T) : i < t ∧ ∀ j, T j = σ (rc j) i := by
  unfold tkL at h
  rw [List.getElem?_map] at h
  by_cases hi : i < t
  · rw [List.getElem?_range hi] at h
    injection h with h
    exact ⟨hi, fun j => by rw [← h]⟩
  · rw [List.getElem?_eq_none (by simpa using hi)] at h
    cases h
theorem tkL_len (t : Nat) (σ : ST) : (tkL t σ).length = t := by unfold tkL; simp
theorem tkL_mem {t : Nat} {σ : ST} {T : Tk} (h : T ∈ tkL t σ) : ∃ i, i < t ∧ ∀ j, T j = σ (rc j) i := by
  obtain ⟨i, hi⟩ := List.mem_iff_getElem?.mp h
  exact ⟨i, tkL_get hi⟩
/-- the chairs of s, by places -/
theorem hN_sum {s : Nat} {L : List Tk} {f : Nat → Nat} (h : ∀ i T, L[i]? = some T → f i = if T 1 = nI s then N (T 3) else 0) : ∀ k, k ≤ L.length → hN s (L.take k) = sumN f k := by
  intro k
  induction k with
  | zero => intro _; rw [List.take_zero]; rfl
  | succ k ih =>
    intro hk
    have hg : L[k]? = some (L[k]'(by omega)) := List.getElem?_eq_getElem (by omega)
    rw [List.take_succ, hN_app, ih (by omega), hg]
    show sumN f k + ((if (L[k]'(by omega)) 1 = nI s then N ((L[k]'(by omega)) 3) else 0) + 0) = sumN f k + f k
    rw [h k _ hg]
    omega
theorem wf_init {n t c : Nat} {σ : ST} (hn : n ≤ 10) (hmo : IMo n t σ) : wf n (N (σ 63 19)) (N (σ 63 1)) (tkL t σ) (fun s => σ 66 s + σ 67 s) (σ 63 2) (σ 63 3) ∧ ∀ s, s < 10 → σ 67 s = sm (hc s) (tkL t σ) := by
  obtain ⟨m1, ⟨q1, q2, q3, q4⟩, m3, m4, m5⟩ := hmo
  have hf9 : ∀ i, i < 10 → N (σ 66 i) + N (σ 67 i) ≤ sumN (fun i => N (σ 66 i) + N (σ 67 i)) 10 := fun i hi => sumN_le (f := fun i => N (σ 66 i) + N (σ 67 i)) hi
  have hst : ∀ s, s < 10 → nn (σ 66 s + σ 67 s) ∧ N (σ 66 s + σ 67 s) = N (σ 66 s) + N (σ 67 s) := fun s hs => nn_add (m1 s hs).1 (m1 s hs).2.1 (by have := hf9 s hs; omega)
  have hh : ∀ s, s < 10 → hN s (tkL t σ) = N (σ 67 s) := by
    intro s hs
    have := hN_sum (s := s) (L := tkL t σ) (f := fun i => if N (σ 72 i) = s then N (σ 73 i) else 0) (fun i T hT => ?_) (tkL t σ).length (Nat.le_refl _)
    · rw [List.take_length, tkL_len] at this
      rw [this, ← m5 s hs]
    · obtain ⟨hi, hj⟩ := tkL_get hT
      obtain ⟨u1, u2, u3, u4, u5, u6, u7, u8⟩ := m3 i hi
      rw [hj 1, hj 3]
      show _ = if σ 72 i = nI s then N (σ 73 i) else 0
      have : N (σ 72 i) = s ↔ σ 72 i = nI s := ⟨fun z => by rw [u3, z], fun z => by rw [z]; exact N_nI (by omega)⟩
      simp only [this]
  have htok : ∀ T, T ∈ tkL t σ → tok n (N (σ 63 19)) T := by
    intro T hT
    obtain ⟨i, hi, hj⟩ := tkL_mem hT
    obtain ⟨u1, u2, u3, u4, u5, u6, u7, u8, u9, u10⟩ := m3 i hi
    unfold tok
    rw [hj 0, hj 1, hj 3, hj 4]
    exact ⟨u1, u2, ⟨N (σ 72 i), u4, u3⟩, u5, u6, u7, u8, u9, u10⟩
  refine ⟨⟨htok, ?_, fun s hs => ⟨(hst s hs).1, by rw [(hst s hs).2, hh s hs]; omega⟩, q2, q3, ?_⟩, fun s hs => ?_⟩
  · unfold tkL
    rw [List.map_map, List.pairwise_map]
    refine List.Pairwise.imp_of_mem (R := fun a b => a < b) (fun {a b} ha hb hab => ?_) List.pairwise_lt_range
    exact m4 a b hab (List.mem_range.mp hb)
  · rw [sumN_congr (f := fun s => N (σ 66 s + σ 67 s)) (g := fun i => N (σ 66 i) + N (σ 67 i)) (fun i hi => (hst i hi).2)]
    exact q4
  · rw [hs_hN s _ (fun T hT => (htok T hT).2.2.2.1), hh s hs]
    exact (m1 s hs).2.1
theorem init8 {n t : Nat} {σ τ : ST} (ht : t ≤ 30) (h21 : σ 2 1 = nI t) (hst : ISt σ) (htk : ITk t σ) (h67 : ∀ s, s < 10 → σ 67 s = sm (hc s) (tkL t σ)) (b1 : σ 0 1 = σ 63 2) (b2 : σ 0 2 = σ 63 3) (b9 : σ 2 4 = σ 63 9) (ag : ∀ a b, a < 63 → ¬ (a = 0 ∧ (b = 5 ∨ b = 6)) → τ a b = σ a b) : V8 τ (tkL t σ) (fun s => σ 66 s + σ 67 s) (fun s => σ 68 s) (σ 63 2) (σ 63 3) (σ 63 9) τ := by
  obtain ⟨pi, p1, p2, p3⟩ := htk
  refine ⟨by rw [tkL_len]; exact ht, by rw [tkL_len, ag 2 1 (by omega) (by omega)]; exact h21, ⟨pi, fun i hi => ⟨(p1 i hi).1, by rw [ag 3 i (by omega) (by omega)]; exact (p1 i hi).2⟩, p2, fun i T hT j hj => ?_⟩, fun s hs => ?_, by rw [ag 0 1 (by omega) (by omega)]; exact b1, by rw [ag 0 2 (by omega) (by omega)]; exact b2, by rw [ag 2 4 (by omega) (by omega)]; exact b9, fun a b _ => rfl⟩
  · obtain ⟨hi, hT2⟩ := tkL_get hT
    have hp := (p1 i (by omega)).1
    rw [ag _ _ (by omega) (by omega), hT2 j]
    obtain ⟨g0, g1, g2, g3, g4, g5, g6⟩ := p3 i hi
    rcases (show j = 0 ∨ j = 1 ∨ j = 2 ∨ j = 3 ∨ j = 4 ∨ j = 5 ∨ j = 6 by omega) with e | e | e | e | e | e | e
    · subst e; exact g0
    · subst e; exact g1
    · subst e; exact g2
    · subst e; exact g3
    · subst e; exact g4
    · subst e; exact g5
    · subst e; exact g6
  · obtain ⟨g0, g1, g2, g3, g4, g5, g6⟩ := hst s hs
    rw [ag _ _ (by omega) (by omega), ag _ _ (by omega) (by omega), ag _ _ (by omega) (by omega)]
    exact ⟨g2, by rw [g3]; exact h67 s hs, g4⟩
theorem init9 {n t : Nat} {σ τ : ST} (ht : t ≤ 30) (h18 : σ 63 18 = nI t) (h67 : ∀ s, s < 10 → σ 67 s = sm (hc s) (tkL t σ)) (ag : ∀ a b, 63 ≤ a → ¬ (a = 63 ∧ (b = 0 ∨ b = 6 ∨ b = 7)) → τ a b = σ a b) : V9 τ (tkL t σ) (fun s => σ 66 s + σ 67 s) (fun s => σ 68 s) (σ 63 2) (σ 63 3) (σ 63 9) τ := by
  refine ⟨by rw [tkL_len]; exact ht, by rw [tkL_len, ag _ _ (by omega) (by omega)]; exact h18, fun i T hT j hj => ?_, fun s hs => ?_, ag _ _ (by omega) (by omega), ag _ _ (by omega) (by omega), ag _ _ (by omega) (by omega), fun a b _ => rfl⟩
  · obtain ⟨hi, hT2⟩ := tkL_get hT
    have := rc_b j hj
    rw [ag _ _ (by omega) (by omega), hT2 j]
  · rw [ag _ _ (by omega) (by omega), ag _ _ (by omega) (by omega), ag _ _ (by omega) (by omega)]
    exact ⟨rfl, h67 s hs, rfl⟩
theorem fr_ru1 {σ τ : ST} (h : IRu0 σ) (e : ∀ a b, fpRu a b → ¬ (a = 63 ∧ b = 7) → τ a b = σ a b) : IRu0 τ := by
  obtain ⟨k, r, q, hk, hr, hq, h1, h2, h3, h4, h5, h6, h7, h8, h9⟩ := h
  have hS : ∀ a b, 7 ≤ a → a ≤ 16 → τ a b = σ a b := fun a b h1 h2 => e _ _ (Or.inr (Or.inl ⟨h1, h2⟩)) (by omega)
  have hM : ∀ a b, 78 ≤ a → a ≤ 81 → τ a b = σ a b := fun a b h1 h2 => e _ _ (Or.inr (Or.inr (Or.inr (Or.inl ⟨h1, h2⟩)))) (by omega)
  refine ⟨k, r, q, hk, hr, hq, by rw [e 0 11 (by decide) (by omega)]; exact h1, by rw [e 0 12 (by decide) (by omega)]; exact h2, by rw [hS k 1 (by omega) (by omega), e 63 27 (by decide) (by omega)]; exact h3, by rw [hS k 2 (by omega) (by omega)]; exact h4, by rw [e 63 28 (by decide) (by omega)]; exact h5, by rw [hS k 3 (by omega) (by omega)]; exact h6, by rw [e 63 31 (by decide) (by omega)]; exact h7, fun j hj => ?_, fun j hj => ?_⟩
  · rw [hS (4 * k - 18 + 0 - 1) j (by omega) (by omega), hS (4 * k - 18 + 1 - 1) j (by omega) (by omega), hM 78 j (by omega) (by omega), hM 79 j (by omega) (by omega)]
    exact h8 j hj
  · rw [hS (4 * k - 18 + 2 - 1) j (by omega) (by omega), hS (4 * k - 18 + 3 - 1) j (by omega) (by omega), hM 80 j (by omega) (by omega), hM 81 j (by omega) (by omega)]
    exact h9 j hj
theorem inv_hour {n t c : Nat} {σ τ σ8 σ9 : ST} {L : List Tk} {st we : Nat → Int32} {lo br ba w : Int32} (hs : ISc n t c σ) (hst : ISt σ) (hmo : IMo n t σ) (hru : IRu σ) (htp : ITp σ) (has : IAs σ) (h8 : V8 σ8 L st we lo br ba τ) (h9 : V9 σ9 L st we lo br ba τ) (hw : wf n (N (σ 63 19)) (N (σ 63 1)) L st lo br) (hwe : ∀ s, s < 10 → nn (we s) ∧ N (we s) < 1000)
    (ag : ∀ a b, ¬ t8 a b → ¬ t9 a b → ¬ (a = 0 ∧ (b = 5 ∨ b = 6)) → ¬ (a = 63 ∧ (b = 0 ∨ b = 6 ∨ b = 7)) → τ a b = σ a b) (x5 : τ 0 5 = σ 63 7 + 1) (x6 : τ 0 6 = w) (y7 : τ 63 7 = σ 63 7 + 1) (y6 : τ 63 6 = w) (h7 : N (σ 63 7) < 5000) : Inv (c + 1) τ := by
  obtain ⟨a1, a2, a3, a4, a5, a6, ⟨e, ee, a7a, a7b⟩, b0, b1, b2, b3, b4, b5, b6, b7, b8, b9⟩ := id hs
  obtain ⟨v1, v2, ⟨pi, p1, p2, p3⟩, v4, v5, v6, v7, v8⟩ := h8
  obtain ⟨u1, u2, u3, u4, u5, u6, u7, u8⟩ := h9
  have hn7 := hru.2.2.2.1
  have w7 := nn_add hn7 one_nn (by rw [one_N]; omega)
  rw [one_N] at w7
  have e63 : ∀ b, ¬ (b = 0 ∨ b = 2 ∨ b = 3 ∨ b = 6 ∨ b = 7 ∨ b = 9 ∨ b = 18) → τ 63 b = σ 63 b := fun b hb => ag 63 b (by omega) (by omega) (by omega) (by omega)
  have hget : ∀ i, i < L.length → ∃ T, L[i]? = some T ∧ T ∈ L := fun i hi => ⟨L[i], List.getElem?_eq_getElem hi, List.getElem_mem hi⟩
  have h67 : ∀ s, s < 10 → τ 67 s = nI (hN s L) ∧ hN s L ≤ N (st s) ∧ N (st s) ≤ 9000 ∧ τ 66 s = nI (N (st s) - hN s L) := fun s hs' => by
    obtain ⟨c1, c2, c3⟩ := u4 s hs'
    have hfe := free_e hw hs'
    refine ⟨by rw [c2]; exact hs_hN s L (fun T hT => (hw.1 T hT).2.2.2.1), (hw.2.2.1 s hs').2, hfe.2, ?_⟩
    rw [← hfe.1, ← c1, ← c2, add_sub_r]
  refine ⟨n, L.length, ⟨a1, v1, by rw [ag 0 7 (by omega) (by omega) (by omega) (by omega)]; exact a3, by rw [e63 10 (by omega)]; exact a4, v2, u2, ⟨e, by omega, by rw [ag 2 2 (by omega) (by omega) (by omega) (by omega)]; exact a7a, by rw [e63 19 (by omega)]; exact a7b⟩, by rw [ag 0 0 (by omega) (by omega) (by omega) (by omega), e63 1 (by omega)]; exact b0, by rw [v5, u5], by rw [v6, u6], by rw [ag 0 3 (by omega) (by omega) (by omega) (by omega), e63 4 (by omega)]; exact b3, by rw [ag 0 4 (by omega) (by omega) (by omega) (by omega), e63 5 (by omega)]; exact b4, by rw [x5, y7], by rw [x6, y6], by rw [ag 0 13 (by omega) (by omega) (by omega) (by omega), e63 43 (by omega)]; exact b7, by rw [ag 2 3 (by omega) (by omega) (by omega) (by omega), e63 8 (by omega)]; exact b8, by rw [v7, u7]⟩, fun i hi => ?_, ⟨pi, p1, p2, fun i hi => ?_⟩, ⟨fun i hi => ?_, ?_, fun i hi => ?_, fun i j hij hj => ?_, fun s hs' => ?_⟩, ⟨fr_ru1 hru.1 (fun a b hf hf7 => ag a b (by omega) (by omega) (by omega) (by omega)), by rw [e63 27 (by omega)]; exact hru.2.1, by rw [ag 20 0 (by omega) (by omega) (by omega) (by omega)]; exact hru.2.2.1, by rw [y7]; exact w7.1, by rw [y7, w7.2]; omega⟩, fr_tp htp (fun a b hf => ag a b (by omega) (by omega) (by omega) (by omega)), fr_as has (fun a b hf => ag a b (by omega) (by omega) (by omega) (by omega))⟩
  · obtain ⟨g0, g1, g2, g3, g4, g5, g6⟩ := hst i hi
    obtain ⟨c1, c2, c3⟩ := u4 i hi
    obtain ⟨d1, d2, d3⟩ := v4 i hi
    have gg : ∀ b, ¬ (2 ≤ b ∧ b ≤ 4) → τ (23 + i) b = σ (23 + i) b := fun b hb => ag _ _ (by omega) (by omega) (by omega) (by omega)
    have gm : ∀ a, 64 ≤ a → a ≤ 70 → ¬ (66 ≤ a ∧ a ≤ 68) → τ a i = σ a i := fun a z1 z2 z3 => ag _ _ (by omega) (by omega) (by omega) (by omega)
    rw [gg 0 (by omega), gg 1 (by omega), gg 5 (by omega), gg 6 (by omega), gm 64 (by omega) (by omega) (by omega), gm 65 (by omega) (by omega) (by omega), gm 69 (by omega) (by omega) (by omega), gm 70 (by omega) (by omega) (by omega)]
    exact ⟨g0, g1, by rw [d1, c1], by rw [d2, c2], by rw [d3, c3], g5, g6⟩
  · obtain ⟨T, hT, -⟩ := hget i hi
    have r8 := p3 i T hT
    have r9 := u3 i T hT
    exact ⟨(r8 0 (by omega)).trans (r9 0 (by omega)).symm, (r8 1 (by omega)).trans (r9 1 (by omega)).symm, (r8 2 (by omega)).trans (r9 2 (by omega)).symm, (r8 3 (by omega)).trans (r9 3 (by omega)).symm, (r8 4 (by omega)).trans (r9 4 (by omega)).symm, (r8 5 (by omega)).trans (r9 5 (by omega)).symm, (r8 6 (by omega)).trans (r9 6 (by omega)).symm⟩
  · obtain ⟨z1, z2, z3, z4, z5, z6, z7, z8⟩ := hmo.1 i hi
    obtain ⟨k1, k2, k3, k4'⟩ := h67 i hi
    rw [k1, k4', (u4 i hi).2.2, ag 69 i (by omega) (by omega) (by omega) (by omega), ag 70 i (by omega) (by omega) (by omega) (by omega)]
    exact ⟨nn_nI (by omega), nn_nI (by omega), (hwe i hi).1, (hwe i hi).2, z5, z6, z7, z8⟩
  · refine ⟨by rw [e63 1 (by omega)]; exact hmo.2.1.1, by rw [u5]; exact hw.2.2.2.1, by rw [u6]; exact hw.2.2.2.2.1, ?_⟩
    rw [e63 1 (by omega), u5, u6, sumN_congr (f := fun i => N (τ 66 i) + N (τ 67 i)) (g := fun s => N (st s)) (n := 10) (fun i hi => by
      obtain ⟨k1, k2, k3, k4'⟩ := h67 i hi
      rw [k1, k4', N_nI (by omega), N_nI (by omega)]
      omega)]
    exact hw.2.2.2.2.2
  · obtain ⟨T, hT, hm⟩ := hget i hi
    have r9 := u3 i T hT
    obtain ⟨t0, t1, ⟨p, hp, t2⟩, t3, t4, t5, t6, t7, t9'⟩ := hw.1 T hm
    rw [show τ 71 i = T 0 from r9 0 (by omega), show τ 72 i = T 1 from r9 1 (by omega), show τ 73 i = T 3 from r9 3 (by omega), show τ 74 i = T 4 from r9 4 (by omega), e63 19 (by omega), t2]
    exact ⟨t0, t1, nn_nI (by omega), by rw [N_nI (by omega)]; exact hp, t3, t4, t5, t6, t7, t9'⟩
  · have hp := List.pairwise_iff_getElem.mp hw.2.1 i j (by rw [List.length_map]; omega) (by rw [List.length_map]; omega) hij
    rw [List.getElem_map, List.getElem_map] at hp
    rw [show τ 71 i = L[i] 0 from u3 i _ (List.getElem?_eq_getElem (by omega)) 0 (by omega), show τ 71 j = L[j] 0 from u3 j _ (List.getElem?_eq_getElem (by omega)) 0 (by omega)]
    exact hp
  · obtain ⟨k1, k2, k3, k4'⟩ := h67 s hs'
    rw [k1, N_nI (by omega)]
    have := hN_sum (s := s) (L := L) (f := fun i => if N (τ 72 i) = s then N (τ 73 i) else 0) (fun i T hT => ?_) L.length (Nat.le_refl _)
    · rw [List.take_length] at this; exact this
    · have hm : T ∈ L := List.mem_iff_getElem?.mpr ⟨i, hT⟩
      have r9 := u3 i T hT
      obtain ⟨t0, t1, ⟨p, hp, t2⟩, -⟩ := hw.1 T hm
      rw [show τ 72 i = T 1 from r9 1 (by omega), show τ 73 i = T 3 from r9 3 (by omega), t2, N_nI (by omega)]
      simp only [nI_eq (show p < 2 ^ 31 by omega) (show s < 2 ^ 31 by omega)]
