/-! walk: finite facts of masks -/
def ml (n m : Nat) : List Nat := (List.range n).filter (fun j => m.testBit j)
theorem fin1 : ∀ m, m < 128 → ∀ j, j < 7 → (decide (((nI m >>> (nI j &&& 31)) &&& 1) = 0) = !(m.testBit j)) := by decide +kernel
theorem fin2 : ∀ n, n < 8 → ∀ m, m < 2 ^ n → bitc (nI m) = nI (ml n m).length ∧ (1 ≤ m → 1 ≤ (ml n m).length) ∧ (ml n m).length ≤ n := by decide +kernel
def f3 (n m j : Nat) : Bool := !(m.testBit j) || (decide ((nI m &&& ((1 <<< (nI j &&& 31)) ^^^ (-1))) = nI (m - 2 ^ j)) && (decide (ml n (m - 2 ^ j) = (ml n m).erase j) && decide (m - 2 ^ j < m)))
theorem fin3' : ∀ n, n < 8 → ∀ m, m < 2 ^ n → ∀ j, j < n → f3 n m j = true := by decide +kernel
theorem fin3 {n m j : Nat} (hn : n < 8) (hm : m < 2 ^ n) (hj : j < n) (h : m.testBit j = true) : (nI m &&& ((1 <<< (nI j &&& 31)) ^^^ (-1))) = nI (m - 2 ^ j) ∧ ml n (m - 2 ^ j) = (ml n m).erase j ∧ m - 2 ^ j < m := by
  have := fin3' n hn m hm j hj
  unfold f3 at this
  rw [h] at this
  simp only [Bool.not_true, Bool.false_or, Bool.and_eq_true, decide_eq_true_eq] at this
  exact this
theorem fin4 : ∀ n, n < 8 → (1 <<< (nI n &&& 31)) - 1 = nI (2 ^ n - 1) ∧ ml n (2 ^ n - 1) = List.range n ∧ 2 ^ n ≤ 128 ∧ 1 ≤ 2 ^ n := by decide +kernel
theorem fin5 : ∀ a, a < 1024 → bitc (nI a) = nI (pos (nI a) 10).length ∧ (1 ≤ a → 1 ≤ (pos (nI a) 10).length) := by decide +kernel
theorem mx_mem {α : Type} : ∀ (C : List (Nat × α)) (b : Option (Nat × α)) (e : Nat × α), mx b C = some e → b = some e ∨ e ∈ C
  | [], b, e, h => Or.inl h
  | c :: C, b, e, h => by
    rcases mx_mem C (mxs b c) e h with h | h
    · cases b with
      | none => exact Or.inr (by rw [show c = e from by simpa [mxs] using h]; exact List.mem_cons_self ..)
      | some d =>
        unfold mxs at h
        by_cases hc : c.1 ≤ d.1
        · simp only [hc, if_true] at h; exact Or.inl h
        · simp only [hc, if_false] at h
          exact Or.inr (by rw [show c = e from by simpa using h]; exact List.mem_cons_self ..)
    · exact Or.inr (List.mem_cons_of_mem _ h)
def cnd (F : Nat → Nat → Nat) (f : Nat) (L : List Nat) (p j : Nat) : Nat × List Nat := (F j p + (oG F f (L.erase j) (p + 1)).1, j :: (oG F f (L.erase j) (p + 1)).2)
theorem oG_cons (F : Nat → Nat → Nat) (f : Nat) (L : List Nat) (p : Nat) (h : L ≠ []) : ∃ j, j ∈ L ∧ oG F (f + 1) L p = cnd F f L p j := by
  rcases mx_mem _ _ _ (oG_mx F f L p h) with w | w
  · exact absurd w (by simp)
  · rw [List.mem_map] at w
    obtain ⟨j, hj, e⟩ := w
    exact ⟨j, hj, e.symm⟩
theorem oG_le {F : Nat → Nat → Nat} : ∀ (f : Nat) (L : List Nat) (p : Nat), (∀ j, j ∈ L → ∀ p, F j p ≤ 500) → (oG F f L p).1 ≤ 500 * f
  | 0, _, _, _ => Nat.le_refl _
  | f + 1, [], p, _ => Nat.zero_le _
  | f + 1, a :: L, p, h => by
    obtain ⟨j, hj, e⟩ := oG_cons F f (a :: L) p (by simp)
    rw [e]
    have h1 := oG_le f ((a :: L).erase j) (p + 1) (fun i hi => h i (List.mem_of_mem_erase hi))
    have h2 := h j hj p
    unfold cnd
    omega
