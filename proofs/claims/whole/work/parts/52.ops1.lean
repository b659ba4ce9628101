/-! the calls, one by one: first those that change little -/
theorem within_e (s : ST) (v a b : Int32) (Q : Int32 → ST → Prop) : w_X8_within s v a b Q = Q (bI (a.toInt ≤ v.toInt ∧ v.toInt ≤ b.toInt)) s := by
  rw [within_eq]; congr 1; unfold bI; simp only [Int32.le_iff_toInt_le]
theorem in_e (s : ST) (v : Int32) (a b : Int64) (Q : Int32 → ST → Prop) : w_X9_in s v.toInt64 a b Q = Q (bI (a.toInt ≤ v.toInt ∧ v.toInt ≤ b.toInt)) s := by
  rw [in_eq]; congr 1; unfold bI; simp only [Int64.le_iff_toInt_le, Int32.toInt_toInt64]
theorem is8e (s : ST) (v : Int32) (Q : Int32 → ST → Prop) : w_X8_isStretch s v Q = Q (bI (0 ≤ v.toInt ∧ v.toInt ≤ (s 0 7 - 1).toInt)) s := by
  rw [isStretch8_eq]; congr 1; unfold bI; simp only [Int32.le_iff_toInt_le]; rfl
theorem is9e (s : ST) (v : Int32) (Q : Int32 → ST → Prop) : w_X9_isStretch s v Q = Q (bI (0 ≤ v.toInt ∧ v.toInt ≤ (s 63 10 - 1).toInt)) s := by
  rw [isStretch9_eq]; congr 1; unfold bI; simp only [Int32.le_iff_toInt_le]; rfl
theorem nm1 {n : Nat} (hn : n ≤ 1000) : (nI n - 1).toInt = (n : Int) - 1 := pk_sub_toInt (a := n) (b := 1) (by omega) (by omega)
theorem inv_thrown {c c' : Nat} {σ : ST} (h : Inv c σ) (hc : c ≤ c') (v : Int32) : Inv c' (up σ 63 0 v) := h.fr hc (fun a b hf => up_ne _ _ (by rintro ⟨rfl, rfl⟩; revert hf; decide))
theorem leaf {c : Nat} {r1 r2 : Int32} {s : ST} {Q : Int32 → Int32 → ST → Prop} (hQ : ∀ r s, Inv c s → Q r r s) (hs : Inv c s) (e : r1 = r2) : Q r1 r2 s := e ▸ hQ r1 s hs
theorem vp_lt {x : Int32} {n : Nat} (h : 0 ≤ x.toInt ∧ x.toInt ≤ (n : Int) - 1) : vp_in x n := by rw [vp_in_iff]; omega
theorem N_in {x : Int32} {n : Nat} (h : 0 ≤ x.toInt ∧ x.toInt ≤ (n : Int) - 1) : x.toNatClampNeg < n := in_lt (vp_lt h)
theorem st_fault {c : Nat} {σ : ST} {Q : Int32 → Int32 → ST → Prop} (h : Inv c σ) (hQ : ∀ r s, Inv (c + 1) s → Q r r s) : w_X8_fault σ (fun r1 s1 => w_X9_fault s1 (fun r2 s2 => Q r1 r2 s2)) := by
  unfold w_X8_fault w_X9_fault
  simp only [forall_eq]
  refine leaf hQ (inv_thrown h (by omega) 0) ?_
  obtain ⟨n, t, hs, -⟩ := h
  rw [up_ne _ _ (by decide)]
  exact hs.2.2.2.2.2.2.2.2.2.2.2.2.2.2.1
theorem st_told {c : Nat} {σ : ST} {Q : Int32 → Int32 → ST → Prop} (h : Inv c σ) (hQ : ∀ r s, Inv (c + 1) s → Q r r s) (x y : Int32) : w_X8_told σ x y (fun r1 s1 => w_X9_told s1 x y (fun r2 s2 => Q r1 r2 s2)) := by
  have hT := inv_thrown h (Nat.le_succ c) 0
  have hL := fun r => hQ r _ hT
  obtain ⟨n, t, hs, hst, -⟩ := h
  obtain ⟨hn, ht, h07, h63, -⟩ := hs
  unfold w_X8_told w_X9_told
  simp only [forall_eq, is8e, is9e, in_e, w_X4_free, w_X9_standing, h07, up_ne σ 0 (show ¬ (63 = 63 ∧ 10 = 0) by decide), h63, nm1 (show n ≤ 1000 by omega)]
  by_cases hx : 0 ≤ x.toInt ∧ x.toInt ≤ (n : Int) - 1
  · have hx10 : vp_in x 10 := vp_lt ⟨hx.1, by omega⟩
    obtain ⟨e0, e1, e2, e3, e4, e5, e6⟩ := hst _ (in_lt hx10)
    have h0 : bI (0 ≤ x.toInt ∧ x.toInt ≤ (n : Int) - 1) = 1 := by unfold bI; rw [if_pos hx]
    rw [h0]
    simp only [hx10, true_and, i10, not_false_eq_true, forall_const, false_implies, and_true, up, show ¬ (64 : Nat) = 63 by decide, false_and, if_false]
    by_cases y0 : y = 0
    · subst y0; simp [bI, e0, hL]
    by_cases y1 : y = 1
    · subst y1; simp [bI, e1, hL]
    by_cases y2 : y = 2
    · subst y2; simp [bI, e2, hL]
    by_cases y3 : y = 3
    · subst y3; simp [bI, e2, e3, hL]
    by_cases y4 : y = 4
    · subst y4; simp [bI, e4, hL]
    by_cases y5 : y = 5
    · subst y5; simp [bI, e5, hL]
    · have hy : ¬ (0 ≤ y.toInt ∧ y.toInt ≤ 5) := by
        rintro ⟨a1, a2⟩
        rcases (show y.toInt = 0 ∨ y.toInt = 1 ∨ y.toInt = 2 ∨ y.toInt = 3 ∨ y.toInt = 4 ∨ y.toInt = 5 by omega) with h | h | h | h | h | h
        · exact y0 (Int32.toInt_inj.mp h)
        · exact y1 (Int32.toInt_inj.mp h)
        · exact y2 (Int32.toInt_inj.mp h)
        · exact y3 (Int32.toInt_inj.mp h)
        · exact y4 (Int32.toInt_inj.mp h)
        · exact y5 (Int32.toInt_inj.mp h)
      simp [bI, y0, y1, y2, y3, y4, y5, hy, hL]
  · simp [bI, hx, hL]
