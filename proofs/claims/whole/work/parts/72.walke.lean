/-! walk: the class's table and path, the call -/
theorem gM_cons {σ : ST} {l : List Nat} {m : Nat} (hn : l.length < 8) (hm : m < 2 ^ l.length) (hm1 : 1 ≤ m) : ∃ j, j < l.length ∧ m.testBit j = true ∧ gM σ l m = cnd (fS σ (lg l)) ((ml l.length m).length - 1) (ml l.length m) (l.length - (ml l.length m).length) j ∧ (gM σ l m).2 = j :: (gM σ l (m - 2 ^ j)).2 ∧ (ml l.length (m - 2 ^ j)).length + 1 = (ml l.length m).length := by
  obtain ⟨c1, c2, c3⟩ := fin2 l.length hn m hm
  have c2 := c2 hm1
  have hne : ml l.length m ≠ [] := by intro e; rw [e] at c2; simp at c2
  obtain ⟨j, hj, e⟩ := oG_cons (fS σ (lg l)) ((ml l.length m).length - 1) (ml l.length m) (l.length - (ml l.length m).length) hne
  rw [show (ml l.length m).length - 1 + 1 = (ml l.length m).length by omega] at e
  obtain ⟨j1, j2⟩ := ml_mem.mp hj
  obtain ⟨d1, d2, d3⟩ := fin3 hn hm j1 j2
  have hlen : (ml l.length (m - 2 ^ j)).length = (ml l.length m).length - 1 := by rw [d2, List.length_erase_of_mem hj]
  have eg : gM σ l m = cnd (fS σ (lg l)) ((ml l.length m).length - 1) (ml l.length m) (l.length - (ml l.length m).length) j := e
  refine ⟨j, j1, j2, eg, ?_, by omega⟩
  rw [eg]
  unfold cnd gM
  rw [hlen, d2, show l.length - ((ml l.length m).length - 1) = l.length - (ml l.length m).length + 1 by omega]
theorem l52 {σ : ST} {l : List Nat} {K : ST → Prop} {Q : ST → Prop} (hmn : mNum σ) (hl : ∀ v, v < l.length → lg l v < 10) (hn : l.length < 8) : ∀ (d m : Nat) (s : ST), m + d = 2 ^ l.length → 1 ≤ m → frC σ s → plS σ l s → (∀ k, k < m → s 20 k = nI (gM σ l k).1) → (∀ τ, frC σ τ → plS σ l τ → (∀ k, k < 2 ^ l.length → τ 20 k = nI (gM σ l k).1) → K τ) → w_X1_plan_L52 (nI (2 ^ l.length - 1)) K Q (d + 1) s (nI m) := by
  obtain ⟨f1, f2, f3, f4⟩ := fin4 l.length hn
  intro d
  induction d with
  | zero =>
    intro m s hm hm1 hf h ht hK
    refine ⟨fun _ => hK s hf h (fun k hk => ht k (by omega)), fun w => absurd ?_ w⟩
    exact (nI_ltI (by omega) (by omega)).mpr (by omega)
  | succ d ih =>
    intro m s hm hm1 hf h ht hK
    refine ⟨fun w => absurd ((nI_ltI (by omega) (by omega)).mp w) (by omega), fun _ => bn_ok hmn hl hn (by omega) hm1 h ht ?_⟩
    obtain ⟨j, j1, j2, j3, j4, j5⟩ := gM_cons (σ := σ) (l := l) (m := m) hn (by omega) hm1
    rw [j4, show lg (j :: (gM σ l (m - 2 ^ j)).2) 0 = j from rfl]
    refine finds_ok hn (by omega) j1 j2 h (ht _ (fin3 hn (by omega) j1 j2).2.2) ?_
    rw [← j3]
    rw [nI_clamp (show m < 2 ^ 31 by omega)]
    refine ⟨vp_in_nI (by omega) (by decide), fun s7 e7 x ex => ?_⟩
    rw [ex, nI_1]
    refine ih (m + 1) s7 (by omega) (by omega) (fun x y z1 z2 z3 z4 => by rw [e7, up_ne _ _ (by omega), hf x y z1 z2 z3 z4]) ⟨by rw [e7, up_ne _ _ (by omega)]; exact h.1, fun v hv => ⟨by rw [e7, up_ne _ _ (by omega)]; exact (h.2 v hv).1, fun y hy => by rw [e7, up_ne _ _ (by omega)]; exact (h.2 v hv).2 y hy⟩⟩ (fun k hk => ?_) hK
    by_cases e : k = m
    · rw [e, e7, up_self]
    · rw [e7, up_ne _ _ (by omega)]; exact ht k (by omega)
theorem ml_zero (n : Nat) : ml n 0 = [] := by unfold ml; simp
theorem lg_drop0 : ∀ (q : List Nat) (k : Nat), lg (q.drop k) 0 = lg q k
  | [], k => by simp [lg]
  | a :: r, 0 => rfl
  | a :: r, k + 1 => lg_drop0 r k
theorem l24 {σ s : ST} {l : List Nat} {i : Nat} {K : ST → Int32 → Prop} {Q : Int32 → ST → Prop} (hmn : mNum σ) (hl : ∀ v, v < l.length → lg l v < 10) (hn : l.length < 8) (h : plS σ l s) (ht : ∀ k, k < 2 ^ l.length → s 20 k = nI (gM σ l k).1) (hi : i < l.length) (q : List Nat) (hK : ∀ m, m < 2 ^ l.length → 1 ≤ m → (gM σ l m).2 = q.drop i → K s (nI m)) : ∀ (d k m : Nat), k + d = i → m < 2 ^ l.length → 1 ≤ m → (gM σ l m).2 = q.drop k → (ml l.length m).length = l.length - k → w_X1_stopAt_L24 (nI i) K Q (d + 1) s (nI m) (nI k) := by
  intro d
  induction d with
  | zero =>
    intro k m hk hm hm1 hg hc
    obtain rfl : k = i := by omega
    exact ⟨fun _ => hK m hm hm1 hg, fun w => absurd (Int32.le_refl _) w⟩
  | succ d ih =>
    intro k m hk hm hm1 hg hc
    refine ⟨fun w => absurd w (nI_ge (a := k) (b := i) (by omega) (by omega)), fun _ => bn_ok hmn hl hn hm hm1 h (fun k hk => ht k (by omega)) ?_⟩
    obtain ⟨j, j1, j2, j3, j4, j5⟩ := gM_cons (σ := σ) (l := l) (m := m) hn hm hm1
    obtain ⟨d1, d2, d3⟩ := fin3 hn hm j1 j2
    rw [j4]
    intro x1 ex1 x2 ex2
    rw [ex1, ex2, show lg (j :: (gM σ l (m - 2 ^ j)).2) 0 = j from rfl, d1, nI_1]
    refine ih (k + 1) (m - 2 ^ j) (by omega) (by omega) ?_ ?_ (by omega)
    · by_cases e : m - 2 ^ j = 0
      · rw [e, ml_zero] at j5
        simp at j5
        omega
      · omega
    · rw [j4] at hg
      have : (q.drop k).tail = (gM σ l (m - 2 ^ j)).2 := by rw [← hg]; rfl
      rw [← this, List.tail_drop]
theorem shr_e {n : Nat} (hn : n ≤ 10) (a : Int32) : (a >>> (nI n &&& 31)).toInt = a.toInt / 2 ^ n := by
  have h : ∀ n, n < 11 → ((nI n &&& 31).toBitVec.smod 32).toNat = n := by decide
  rw [pk_shr a (nI n &&& 31) n (h n (by omega)), Int.shiftRight_eq_div_pow]
  rfl
