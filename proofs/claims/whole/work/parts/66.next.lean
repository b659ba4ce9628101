/-! walk: the reference's next order -/
theorem lg_ls : ∀ (p : List Nat) (i v k : Nat), k < p.length → lg (ls p i v) k = if k = i then v else lg p k
  | [], _, _, _, h => absurd h (by simp)
  | a :: r, 0, v, 0, _ => rfl
  | a :: r, 0, v, k + 1, _ => by simp [ls, lg]
  | a :: r, i + 1, v, 0, _ => by simp [ls, lg]
  | a :: r, i + 1, v, k + 1, h => by
    simp only [ls, lg]
    rw [lg_ls r i v k (by simpa using h)]
    simp
theorem ls_len : ∀ (p : List Nat) (i v : Nat), (ls p i v).length = p.length
  | [], _, _ => rfl
  | a :: r, 0, v => rfl
  | a :: r, i + 1, v => by simp [ls, ls_len r i v]
theorem swp_len (p : List Nat) (i j : Nat) : (swp p i j).length = p.length := by unfold swp; rw [ls_len, ls_len]
def okp (n : Nat) (p : List Nat) : Prop := p.length = n ∧ ∀ v, v < n → lg p v < n
def eq87 (S : Nat → Nat) (n : Nat) (s : ST) (p : List Nat) : Prop := ∀ v, v < n → s 87 v = nI (S (lg p v))
def incr (S : Nat → Nat) (n : Nat) : Prop := (∀ i j, i < j → j < n → S i < S j) ∧ ∀ i, i < n → S i < 10
theorem incr_le {S : Nat → Nat} {n a b : Nat} (h : incr S n) (ha : a < n) (hb : b < n) : S a ≤ S b ↔ a ≤ b := by
  constructor
  · intro e
    by_cases h1 : b < a
    · have := h.1 b a h1 ha; omega
    · omega
  · intro e
    by_cases h1 : a = b
    · rw [h1]; exact Nat.le_refl _
    · exact Nat.le_of_lt (h.1 a b (by omega) hb)
theorem nI_le' {a b : Nat} (ha : a < 2 ^ 31) (hb : b < 2 ^ 31) : nI a ≤ nI b ↔ a ≤ b := by
  rw [Int32.le_iff_toInt_le, nI_toInt ha, nI_toInt hb]; omega
theorem cmp87 {S : Nat → Nat} {n a b : Nat} {s : ST} {p : List Nat} (hS : incr S n) (hp : okp n p) (h : eq87 S n s p) (ha : a < n) (hb : b < n) : s 87 a ≤ s 87 b ↔ lg p a ≤ lg p b := by
  rw [h a ha, h b hb, nI_le' (by have := hS.2 _ (hp.2 a ha); omega) (by have := hS.2 _ (hp.2 b hb); omega)]
  exact incr_le hS (hp.2 a ha) (hp.2 b hb)
theorem swp_ok {n : Nat} {p : List Nat} {i j : Nat} (hp : okp n p) (hi : i < n) (hj : j < n) : okp n (swp p i j) ∧ ∀ k, k < n → lg (swp p i j) k = if k = j then lg p i else if k = i then lg p j else lg p k := by
  have e : ∀ k, k < n → lg (swp p i j) k = if k = j then lg p i else if k = i then lg p j else lg p k := fun k hk => by
    unfold swp
    rw [lg_ls _ _ _ _ (by rw [ls_len, hp.1]; exact hk), lg_ls _ _ _ _ (by rw [hp.1]; exact hk)]
  refine ⟨⟨by rw [swp_len]; exact hp.1, fun k hk => ?_⟩, e⟩
  rw [e k hk]
  split
  · exact hp.2 i hi
  · split
    · exact hp.2 j hj
    · exact hp.2 k hk
theorem swp_st {S : Nat → Nat} {n : Nat} {p : List Nat} {s s1 s2 : ST} {i j : Nat} (hp : okp n p) (h : eq87 S n s p) (hi : i < n) (hj : j < n) (e1 : s1 = up s 87 i (s 87 j)) (e2 : s2 = up s1 87 j (s 87 i)) : eq87 S n s2 (swp p i j) ∧ ∀ a b, a ≠ 87 → s2 a b = s a b := by
  refine ⟨fun k hk => ?_, fun a b hab => by rw [e2, up_ne _ _ (by omega), e1, up_ne _ _ (by omega)]⟩
  rw [(swp_ok hp hi hj).2 k hk]
  by_cases k1 : k = j
  · rw [if_pos k1, k1, e2, up_self]; exact h i hi
  · rw [if_neg k1, e2, up_ne _ _ (by omega)]
    by_cases k2 : k = i
    · rw [if_pos k2, k2, e1, up_self]; exact h j hj
    · rw [if_neg k2, e1, up_ne _ _ (by omega)]; exact h k hk
theorem l4 {S : Nat → Nat} {n : Nat} {p : List Nat} {s : ST} {v1 : Int32} {K : ST → Int32 → Prop} {Q : Int32 → ST → Prop} (hn : n ≤ 7) (hS : incr S n) (hp : okp n p) (h : eq87 S n s p) : ∀ i, i + 1 ≤ n → (piv p i = none → K s (-1)) → (∀ k, k < i → piv p i = some k → K s (nI k)) → w_X9_next_L4 v1 K Q (i + 1) s (nI i - 1)
  | 0, _, h0, _ => ⟨fun _ => h0 rfl, fun w => absurd (by decide) w⟩
  | i + 1, hi, h0, h1 => by
    rw [nI_m1]
    refine ⟨fun w => absurd w (by rw [Int32.lt_iff_toInt_lt, nI_toInt (by omega), k32_0]; omega), fun _ => ⟨vp_in_nI (by omega) (by decide), by rw [nI_1]; exact vp_in_nI (by omega) (by decide), ?_⟩⟩
    rw [nI_1, nI_clamp (show i < 2 ^ 31 by omega), nI_clamp (show i + 1 < 2 ^ 31 by omega), cmp87 hS hp h (by omega) (by omega)]
    refine ⟨fun w => h1 i (by omega) (if_pos w), fun w x ex => ?_⟩
    have e : piv p (i + 1) = piv p i := if_neg w
    rw [ex, show nI i + -1 = nI i - 1 from (Int32.sub_eq_add_neg _ _).symm]
    exact l4 hn hS hp h i (by omega) (fun w => h0 (e.trans w)) (fun k hk w => h1 k (by omega) (e.trans w))
theorem fnd_le (p : List Nat) (a : Nat) : ∀ j, fnd p a j ≤ j
  | 0 => Nat.le_refl _
  | j + 1 => by
    unfold fnd
    split
    · exact Nat.le_refl _
    · exact Nat.le_succ_of_le (fnd_le p a j)
theorem l41 {S : Nat → Nat} {n i : Nat} {p : List Nat} {s : ST} {v1 : Int32} {K : ST → Int32 → Prop} {Q : Int32 → ST → Prop} (hn : n ≤ 7) (hS : incr S n) (hp : okp n p) (h : eq87 S n s p) : ∀ j, i ≤ j → j < n → K s (nI (fnd p (lg p i) j)) → w_X9_next_L41 v1 (nI i) K Q (j + 1) s (nI j)
  | 0, hi, hj, hK => by
    obtain rfl : i = 0 := by omega
    refine ⟨vp_in_nI (by omega) (by decide), vp_in_nI (by omega) (by decide), fun _ => hK, fun w => absurd (Int32.le_refl _) w⟩
  | j + 1, hi, hj, hK => by
    refine ⟨vp_in_nI (by omega) (by decide), vp_in_nI (by omega) (by decide), ?_⟩
    rw [nI_clamp (show i < 2 ^ 31 by omega), nI_clamp (show j + 1 < 2 ^ 31 by omega), cmp87 hS hp h (by omega) (by omega)]
    refine ⟨fun w => ?_, fun w x ex => ?_⟩
    · rw [show fnd p (lg p i) (j + 1) = j + 1 from if_pos w] at hK; exact hK
    · rw [show fnd p (lg p i) (j + 1) = fnd p (lg p i) j from if_neg w] at hK
      rw [ex, show nI (j + 1) + -1 = nI (j + 1) - 1 from (Int32.sub_eq_add_neg _ _).symm, nI_m1]
      refine l41 hn hS hp h j ?_ (by omega) hK
      by_cases e : i = j + 1
      · rw [e] at w; exact absurd (Nat.le_refl _) w
      · omega
theorem l100 {S : Nat → Nat} {n : Nat} {K : ST → Prop} {Q : Int32 → ST → Prop} (hn : n ≤ 7) : ∀ (f : Nat) (p : List Nat) (s : ST) (lo hi : Nat), okp n p → eq87 S n s p → hi < n → lo ≤ n → hi ≤ lo + f → (∀ τ, eq87 S n τ (rvs f p lo hi) → (∀ a b, a ≠ 87 → τ a b = s a b) → K τ) → w_X9_next_L100 K Q (f + 1) s (nI lo) (nI hi)
  | 0, p, s, lo, hi, hp, h, h1, hlo, h2, hK => ⟨fun _ => hK s h (fun _ _ _ => rfl), fun w => absurd ((nI_le' (by omega) (by omega)).mpr (by omega)) w⟩
  | f + 1, p, s, lo, hi, hp, h, h1, hlo, h2, hK => by
    unfold rvs at hK
    refine ⟨fun w => ?_, fun w => ?_⟩
    · rw [nI_le' (by omega) (by omega)] at w
      rw [if_pos w] at hK
      exact hK s h (fun _ _ _ => rfl)
    · rw [nI_le' (by omega) (by omega)] at w
      rw [if_neg w] at hK
      have hl : vp_in (nI lo) 7 := vp_in_nI (by omega) (by decide)
      have hh : vp_in (nI hi) 7 := vp_in_nI (by omega) (by decide)
      refine ⟨hl, fun x1 ex1 => ⟨hh, hl, fun s5 e5 => ⟨hh, fun s6 e6 x2 ex2 x3 ex3 => ?_⟩⟩⟩
      rw [nI_clamp (show lo < 2 ^ 31 by omega)] at ex1 e5
      rw [nI_clamp (show hi < 2 ^ 31 by omega)] at e5 e6
      rw [ex1] at e6
      obtain ⟨t1, t2⟩ := swp_st hp h (show lo < n by omega) h1 e5 e6
      obtain ⟨hi', rfl⟩ : ∃ k, hi = k + 1 := ⟨hi - 1, by omega⟩
      rw [ex2, ex3, nI_1, show nI (hi' + 1) + -1 = nI (hi' + 1) - 1 from (Int32.sub_eq_add_neg _ _).symm, nI_m1]
      exact l100 hn f _ s6 (lo + 1) hi' (swp_ok hp (by omega) h1).1 t1 (by omega) (by omega) (by omega) (fun τ z1 z2 => hK τ z1 (fun a b hab => by rw [z2 a b hab, t2 a b hab]))
theorem m_next {S : Nat → Nat} {n : Nat} {p : List Nat} {s : ST} {Q : Int32 → ST → Prop} (hn : n ≤ 7) (hn1 : 1 ≤ n) (hS : incr S n) (hp : okp n p) (h : eq87 S n s p) (h0 : nxt n p = none → Q 0 s) (h1 : ∀ p', nxt n p = some p' → ∀ τ, eq87 S n τ p' → (∀ a b, a ≠ 87 → τ a b = s a b) → Q 1 τ) : w_X9_next s (nI n) Q := by
  obtain ⟨m, rfl⟩ : ∃ m, n = m + 1 := ⟨n - 1, by omega⟩
  intro x1 ex1
  have ex : x1 = nI m - 1 := by
    rw [ex1, show (2 : Int32) = 1 + 1 from rfl, ← Int32.sub_sub, nI_m1]
  rw [ex]
  unfold nxt at h0 h1
  simp only [Nat.add_sub_cancel] at h0 h1
  refine ⟨m + 1, l4 hn hS hp h m (by omega) (fun e => ?_) (fun k hk e => ?_)⟩
  · rw [e] at h0
    exact ⟨fun w => absurd w (by decide), fun _ => h0 rfl⟩
  · rw [e] at h1
    refine ⟨fun _ x4 ex4 => ?_, fun w => absurd (by rw [Int32.le_iff_toInt_le, nI_toInt (by omega), k32_0]; omega) w⟩
    rw [ex4, nI_m1]
    refine ⟨m + 1, l41 hn hS hp h m (by omega) (by omega) ?_⟩
    have hfl := fnd_le p (lg p k) m
    have h1' := h1 _ rfl
    generalize hj : fnd p (lg p k) m = j at *
    have hk7 : vp_in (nI k) 7 := vp_in_nI (by omega) (by decide)
    have hj7 : vp_in (nI j) 7 := vp_in_nI (by omega) (by decide)
    refine ⟨hk7, fun x7 ex7 => ⟨hj7, hk7, fun s3 e3 => ⟨hj7, fun s4 e4 x8 ex8 x9 ex9 => ⟨m + 1 + 1, ?_⟩⟩⟩⟩
    rw [nI_clamp (show k < 2 ^ 31 by omega)] at ex7 e3
    rw [nI_clamp (show j < 2 ^ 31 by omega)] at e3 e4
    rw [ex7] at e4
    obtain ⟨t1, t2⟩ := swp_st hp h (show k < m + 1 by omega) (show j < m + 1 by omega) e3 e4
    rw [ex8, ex9, nI_1]
    exact l100 hn (m + 1) _ s4 (k + 1) m (swp_ok hp (by omega) (by omega)).1 t1 (by omega) (by omega) (by omega) (fun τ z1 z2 => h1' τ z1 (fun a b hab => by rw [z2 a b hab, t2 a b hab]))
