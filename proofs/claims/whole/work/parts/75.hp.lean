/-! the law's loop, from the calls -/
def HHour : Prop := ∀ (c : Nat) (σ : ST) (Q : Int32 → Int32 → ST → Prop), c ≤ 1000 → Inv c σ → (∀ r s, Inv (c + 1) s → Q r r s) → ∀ x y z w : Int32, w_X8_hour σ x y z w (fun r1 s1 => w_X9_hour s1 x y z w (fun r2 s2 => Q r1 r2 s2))
def HRules : Prop := ∀ (c : Nat) (σ : ST) (Q : Int32 → Int32 → ST → Prop), c ≤ 1000 → Inv c σ → (∀ r s, Inv (c + 1) s → Q r r s) → w_X8_rules σ (fun r1 s1 => w_X9_rules s1 (fun r2 s2 => Q r1 r2 s2))
theorem hp_loop (HH : HHour) (HR : HRules) {L : Nat} (hL : L ≤ 2561) (xs : Nat → Int32) : ∀ (n c : Nat) (s : ST), Inv c s → 1 + 5 * c ≤ 3000 → L ≤ 1 + 5 * c + 5 * n → w_law L xs (fun _ => True) (n + 1) s (nI (1 + 5 * c)) := by
  intro n
  induction n with
  | zero =>
    intro c s hI hc hle
    refine ⟨fun _ => trivial, fun w => absurd ?_ w⟩
    rw [Int32.lt_iff_toInt_lt, show (5 : Int32) = nI 5 from rfl, pk_sub_toInt (by omega) (by omega), nI_toInt (by omega)]
    omega
  | succ n ih =>
    intro c s hI hc hle
    refine ⟨fun _ => trivial, fun w => ?_⟩
    rw [Int32.lt_iff_toInt_lt, show (5 : Int32) = nI 5 from rfl, pk_sub_toInt (by omega) (by omega), nI_toInt (by omega)] at w
    have hc' : c ≤ 1000 := by omega
    have i2 : Inv (c + 1) s := hI.fr (by omega) (fun _ _ _ => rfl)
    have nx : ∀ s, Inv (c + 1) s → ∀ x : Int32, x = nI (1 + 5 * c) + 5 → w_law L xs (fun _ => True) (n + 1) s x := fun s hs x ex => by
      rw [ex, show (5 : Int32) = nI 5 from rfl, nI_add, show 1 + 5 * c + 5 = 1 + 5 * (c + 1) by omega]
      exact ih (c + 1) s hs (by omega) (by omega)
    have v0 : vp_in (nI (1 + 5 * c)) L := vp_in_nI (by omega) (by omega)
    have v1 : vp_in (nI (1 + 5 * c) + 1) L := by rw [nI_1]; exact vp_in_nI (by omega) (by omega)
    have v2 : vp_in (nI (1 + 5 * c) + 2) L := by rw [show (2 : Int32) = nI 2 from rfl, nI_add]; exact vp_in_nI (by omega) (by omega)
    have v3 : vp_in (nI (1 + 5 * c) + 3) L := by rw [show (3 : Int32) = nI 3 from rfl, nI_add]; exact vp_in_nI (by omega) (by omega)
    have v4 : vp_in (nI (1 + 5 * c) + 4) L := by rw [show (4 : Int32) = nI 4 from rfl, nI_add]; exact vp_in_nI (by omega) (by omega)
    refine ⟨v0, ?_⟩
    simp only [v1, v2, v3, v4, true_and]
    generalize nI (1 + 5 * c) = v at *
    have K : ∀ (r : Int32) (s : ST), Inv (c + 1) s → ((r = r → (∀ x : Int32, x = v + 5 → (w_law L xs (fun _ => True) (n + 1) s x))) ∧ (¬ (r = r) → False)) := fun r s hs => ⟨fun _ => nx s hs, fun w => absurd rfl w⟩
    generalize xs v.toNatClampNeg &&& 31 = op
    refine ⟨fun _ => st_stretch (Q := fun r1 r2 s2 => (r1 = r2 → ∀ x : Int32, x = v + 5 → w_law L xs (fun _ => True) (n + 1) s2 x) ∧ (¬ r1 = r2 → False)) hI K _ _, fun _ => ⟨fun _ => st_carry (Q := fun r1 r2 s2 => (r1 = r2 → ∀ x : Int32, x = v + 5 → w_law L xs (fun _ => True) (n + 1) s2 x) ∧ (¬ r1 = r2 → False)) hI K _ _ _, fun _ => ⟨fun _ => st_told (Q := fun r1 r2 s2 => (r1 = r2 → ∀ x : Int32, x = v + 5 → w_law L xs (fun _ => True) (n + 1) s2 x) ∧ (¬ r1 = r2 → False)) hI K _ _, fun _ => ⟨fun _ => st_rule (Q := fun r1 r2 s2 => (r1 = r2 → ∀ x : Int32, x = v + 5 → w_law L xs (fun _ => True) (n + 1) s2 x) ∧ (¬ r1 = r2 → False)) hI K _ _, fun _ => ⟨fun _ => st_mend (Q := fun r1 r2 s2 => (r1 = r2 → ∀ x : Int32, x = v + 5 → w_law L xs (fun _ => True) (n + 1) s2 x) ∧ (¬ r1 = r2 → False)) hI K _, fun _ => ⟨fun _ => st_hire (Q := fun r1 r2 s2 => (r1 = r2 → ∀ x : Int32, x = v + 5 → w_law L xs (fun _ => True) (n + 1) s2 x) ∧ (¬ r1 = r2 → False)) hc' hI K _ _ _, fun _ => ⟨fun _ => st_shift (Q := fun r1 r2 s2 => (r1 = r2 → ∀ x : Int32, x = v + 5 → w_law L xs (fun _ => True) (n + 1) s2 x) ∧ (¬ r1 = r2 → False)) hI K _ _, fun _ => ⟨fun _ => st_ticket (Q := fun r1 r2 s2 => (r1 = r2 → ∀ x : Int32, x = v + 5 → w_law L xs (fun _ => True) (n + 1) s2 x) ∧ (¬ r1 = r2 → False)) hI K _ _, fun _ => ⟨fun _ => HH c s (fun r1 r2 s2 => (r1 = r2 → ∀ x : Int32, x = v + 5 → w_law L xs (fun _ => True) (n + 1) s2 x) ∧ (¬ r1 = r2 → False)) hc' hI K _ _ _ _, fun _ => ⟨fun _ => st_feed (Q := fun r1 r2 s2 => (r1 = r2 → ∀ x : Int32, x = v + 5 → w_law L xs (fun _ => True) (n + 1) s2 x) ∧ (¬ r1 = r2 → False)) hI K _ _, fun _ => ⟨fun _ => HR c s (fun r1 r2 s2 => (r1 = r2 → ∀ x : Int32, x = v + 5 → w_law L xs (fun _ => True) (n + 1) s2 x) ∧ (¬ r1 = r2 → False)) hc' hI K, fun _ => ⟨fun _ => st_fault (Q := fun r1 r2 s2 => (r1 = r2 → ∀ x : Int32, x = v + 5 → w_law L xs (fun _ => True) (n + 1) s2 x) ∧ (¬ r1 = r2 → False)) hI K, fun _ => ⟨fun _ => st_rent (Q := fun r1 r2 s2 => (r1 = r2 → ∀ x : Int32, x = v + 5 → w_law L xs (fun _ => True) (n + 1) s2 x) ∧ (¬ r1 = r2 → False)) hI K _, fun _ => ⟨fun _ => st_unpaid (Q := fun r1 r2 s2 => (r1 = r2 → ∀ x : Int32, x = v + 5 → w_law L xs (fun _ => True) (n + 1) s2 x) ∧ (¬ r1 = r2 → False)) hI K _ _ _, fun _ => ⟨fun _ => st_walk (Q := fun r1 r2 s2 => (r1 = r2 → ∀ x : Int32, x = v + 5 → w_law L xs (fun _ => True) (n + 1) s2 x) ∧ (¬ r1 = r2 → False)) hI K _ _, fun _ => ⟨fun _ => st_kind (Q := fun r1 r2 s2 => (r1 = r2 → ∀ x : Int32, x = v + 5 → w_law L xs (fun _ => True) (n + 1) s2 x) ∧ (¬ r1 = r2 → False)) hI K _, fun _ => ⟨fun _ => st_as (Q := fun r1 r2 s2 => (r1 = r2 → ∀ x : Int32, x = v + 5 → w_law L xs (fun _ => True) (n + 1) s2 x) ∧ (¬ r1 = r2 → False)) hI K _ _, fun _ => ⟨fun _ => st_ask (Q := fun r1 r2 s2 => (r1 = r2 → ∀ x : Int32, x = v + 5 → w_law L xs (fun _ => True) (n + 1) s2 x) ∧ (¬ r1 = r2 → False)) hI K _ _, fun _ => ⟨fun _ => st_trace (Q := fun r1 r2 s2 => (r1 = r2 → ∀ x : Int32, x = v + 5 → w_law L xs (fun _ => True) (n + 1) s2 x) ∧ (¬ r1 = r2 → False)) hI K _, fun _ => ⟨fun _ => st_count (Q := fun r1 r2 s2 => (r1 = r2 → ∀ x : Int32, x = v + 5 → w_law L xs (fun _ => True) (n + 1) s2 x) ∧ (¬ r1 = r2 → False)) hI K _, fun _ => nx s i2⟩⟩⟩⟩⟩⟩⟩⟩⟩⟩⟩⟩⟩⟩⟩⟩⟩⟩⟩⟩
theorem hp_of (HH : HHour) (HR : HRules) : ∀ (L : Nat) (xs : Nat → Int32) (a : Int32), L ≤ 2561 → ∃ n, w_law L xs (fun _ => True) n (sg0 (cst a)) 1 := fun L xs a hL =>
  ⟨L + 1, hp_loop HH HR hL xs L 0 (sg0 (cst a)) (inv0 a) (by omega) (by omega)⟩
