/-! feed -/
def g8 (w : Int64) : Int32 := (((w : Int64).toInt32 : Int32).toInt8.toInt32 : Int32).toInt8.toInt32
def g9 (w : Int64) : Int32 := ((w &&& 255 : Int64)).toInt32
def sh (v : Int64) (k : Int32) : Int64 := v >>> (((8 * k) : Int32).toInt64 &&& 63)
theorem and255 {a b : Nat} (h : ∀ i, i < 8 → a.testBit i = b.testBit i) : a &&& 255 = b &&& 255 := by
  apply Nat.eq_of_testBit_eq
  intro i
  rw [Nat.testBit_and, Nat.testBit_and]
  by_cases hi : i < 8
  · rw [h i hi]
  · rw [Nat.testBit_lt_two_pow (x := 255) (i := i) (Nat.lt_of_lt_of_le (show 255 < 2 ^ 8 by decide) (Nat.pow_le_pow_right (by decide) (by omega))), Bool.and_false, Bool.and_false]
theorem byte_e (w : Int64) : ∃ b : Nat, b < 256 ∧ g9 w = nI b ∧ g8 w &&& 255 = nI b := by
  refine ⟨(w.toBitVec &&& 255#64).toNat, ?_, ?_, ?_⟩
  · rw [BitVec.toNat_and]
    exact Nat.lt_of_le_of_lt Nat.and_le_right (by decide)
  · apply Int32.toBitVec_inj.mp
    unfold g9 nI
    apply BitVec.eq_of_toNat_eq
    simp
    apply and255
    intro i hi
    rw [show (4294967296 : Nat) = 2 ^ 32 from rfl, Nat.testBit_mod_two_pow, BitVec.testBit_toNat, BitVec.testBit_toNat, BitVec.getLsbD_signExtend]
    simp [show i < 32 by omega, show i < 64 by omega]
  · apply Int32.toBitVec_inj.mp
    unfold g8 nI
    apply BitVec.eq_of_toNat_eq
    simp
    apply and255
    intro i hi
    rw [show (4294967296 : Nat) = 2 ^ 32 from rfl, Nat.testBit_mod_two_pow, BitVec.testBit_toNat, BitVec.testBit_toNat, BitVec.getLsbD_signExtend, BitVec.getLsbD_signExtend]
    simp [show i < 32 by omega, show i < 64 by omega, hi]
theorem nI_m1 (m : Nat) : nI (m + 1) - 1 = nI m := by
  rw [← nI_1, Int32.add_sub_cancel]
theorem app8 {v : Int64} {K : ST → Prop} {Q : ST → Prop} : ∀ (m l : Nat) (s : ST), s 5 1 = nI l → l + m ≤ 300 → m ≤ 8 → (∀ τ : ST, τ 5 1 = nI (l + m) → (∀ a b, ¬ (a = 5 ∧ b = 1) → ¬ (a = 6 ∧ l ≤ b) → τ a b = s a b) → (∀ i, i < m → τ 6 (l + i) = g8 (sh v (nI (m - 1 - i)))) → K τ) → w_X5_append_L5 v K Q (m + 1) s (nI m - 1) := by
  intro m
  induction m with
  | zero =>
    intro l s h1 h2 h8 hK
    refine ⟨fun _ => hK s h1 (fun _ _ _ _ => rfl) (fun i hi => absurd hi (by omega)), fun z => absurd (by decide) z⟩
  | succ m ih =>
    intro l s h1 h2 h8 hK
    rw [nI_m1]
    refine ⟨fun z => absurd z (by rw [Int32.lt_iff_toInt_lt, nI_toInt (by omega), k32_0]; omega), fun _ => ⟨by rw [h1]; exact vp_in_nI (by omega) (by decide), ?_⟩⟩
    intro s1 e1 s2 e2 x2 e3
    rw [h1, nI_clamp (show l < 2 ^ 31 by omega)] at e1
    have hx : x2 = nI m - 1 := by rw [e3, Int32.sub_eq_add_neg]
    rw [hx]
    have h51 : s1 5 1 = nI l := by subst e1; simp [up]; exact h1
    refine ih (l + 1) s2 (by subst e2; simp [up]; rw [h51, nI_1]) (by omega) (by omega) (fun τ t1 t2 t3 => hK τ (by rw [t1]; congr 1; omega) (fun a b ha hb => ?_) (fun i hi => ?_))
    · rw [t2 a b ha (by omega)]
      subst e2 e1
      simp only [up]; repeat rw [if_neg (by omega)]
    · cases i with
      | zero =>
        rw [t2 6 (l + 0) (by omega) (by omega)]
        subst e2 e1
        simp only [up, and_self, true_and, and_true, if_true, Nat.add_zero]; repeat (first | rw [if_neg (by omega)] | rw [if_pos (by omega)])
        rfl
      | succ i =>
        rw [show l + (i + 1) = l + 1 + i by omega, t3 i (by omega)]
        congr 3; omega
theorem app9 {v : Int64} {K : ST → Prop} {Q : Int32 → ST → Prop} : ∀ (m l : Nat) (s : ST), s 63 42 = nI l → l + m ≤ 300 → m ≤ 8 → (∀ τ : ST, τ 63 42 = nI (l + m) → (∀ a b, ¬ (a = 63 ∧ b = 42) → ¬ (a = 86 ∧ l ≤ b) → τ a b = s a b) → (∀ i, i < m → τ 86 (l + i) = g9 (sh v (nI (m - 1 - i)))) → K τ) → w_X9_feed_L40 v K Q (m + 1) s (nI m - 1) := by
  intro m
  induction m with
  | zero =>
    intro l s h1 h2 h8 hK
    refine ⟨fun _ => hK s h1 (fun _ _ _ _ => rfl) (fun i hi => absurd hi (by omega)), fun z => absurd (by decide) z⟩
  | succ m ih =>
    intro l s h1 h2 h8 hK
    rw [nI_m1]
    refine ⟨fun z => absurd z (by rw [Int32.lt_iff_toInt_lt, nI_toInt (by omega), k32_0]; omega), fun _ => ⟨by rw [h1]; exact vp_in_nI (by omega) (by decide), ?_⟩⟩
    intro s1 e1 s2 e2 x2 e3
    rw [h1, nI_clamp (show l < 2 ^ 31 by omega)] at e1
    have hx : x2 = nI m - 1 := by rw [e3, Int32.sub_eq_add_neg]
    rw [hx]
    have h51 : s1 63 42 = nI l := by subst e1; simp [up]; exact h1
    refine ih (l + 1) s2 (by subst e2; simp [up]; rw [h51, nI_1]) (by omega) (by omega) (fun τ t1 t2 t3 => hK τ (by rw [t1]; congr 1; omega) (fun a b ha hb => ?_) (fun i hi => ?_))
    · rw [t2 a b ha (by omega)]
      subst e2 e1
      simp only [up]; repeat rw [if_neg (by omega)]
    · cases i with
      | zero =>
        rw [t2 86 (l + 0) (by omega) (by omega)]
        subst e2 e1
        simp only [up, and_self, true_and, and_true, if_true, Nat.add_zero]; repeat (first | rw [if_neg (by omega)] | rw [if_pos (by omega)])
        rfl
      | succ i =>
        rw [show l + (i + 1) = l + 1 + i by omega, t3 i (by omega)]
        congr 3; omega
theorem st_feed {c : Nat} {σ : ST} {Q : Int32 → Int32 → ST → Prop} (h : Inv c σ) (hQ : ∀ r s, Inv (c + 1) s → Q r r s) (v : Int64) (x : Int32) : w_X8_feed σ v x (fun r1 s1 => w_X9_feed s1 v x (fun r2 s2 => Q r1 r2 s2)) := by
  have hh := h
  obtain ⟨n, t, hs, hst, htk, hmo, hru, htp, has⟩ := h
  obtain ⟨l, hl, h1, h2, h3⟩ := id htp
  refine R8_w (fun hz => tf1 ?_) (fun hz => tf0 ?_)
  · have hzn : nn x := nn_of (by have := hz.1; rw [k32_1] at this; omega)
    rw [k32_1, k32_8] at hz
    obtain ⟨m, hm, rfl, em⟩ := nn_ex hzn
    rw [nI_toInt hm] at hz
    have hm1 : 1 ≤ m := by omega
    have hm8 : m ≤ 8 := by omega
    have hadd : nI l + nI m = nI (l + m) := nI_add l m
    have ht : ∀ k : Nat, k < 1000 → ((300 : Int32) < nI k ↔ 300 < k) := fun k hk => by
      rw [Int32.lt_iff_toInt_lt, nI_toInt (by omega), show (300 : Int32).toInt = 300 from rfl]; omega
    have ht2 : ∀ k : Nat, k < 1000 → (nI k ≤ (300 : Int32) ↔ k ≤ 300) := fun k hk => by
      rw [Int32.le_iff_toInt_le, nI_toInt (by omega), show (300 : Int32).toInt = 300 from rfl]; omega
    refine ⟨fun w => tf0 ?_, fun w => tf1 ?_⟩
    · intro s1 e1
      obtain ⟨hI, hag⟩ := th hh e1
      rw [h1, hadd, ht _ (by omega)] at w
      refine R9_in (fun _ => tf1 ?_) (fun w => absurd ⟨by rw [k64_1, nI_toInt hm]; omega, by rw [k64_8, nI_toInt hm]; omega⟩ w)
      rw [hag 63 42 (by decide), h2, hadd]
      exact ⟨fun w2 => absurd ((ht2 _ (by omega)).mp w2) (by omega), fun _ => hQ _ _ hI⟩
    · rw [h1, hadd, ht _ (by omega)] at w
      intro x1 ex1
      rw [ex1]
      refine ⟨m + 1, app8 m l σ h1 (by omega) hm8 (fun τ t1 t2 t3 => ?_)⟩
      intro s1 e1
      have hag : ∀ a b, ¬ (a = 63 ∧ b = 0) → s1 a b = τ a b := fun a b hab => by subst e1; exact up_ne _ _ hab
      refine R9_in (fun _ => tf1 ?_) (fun w => absurd ⟨by rw [k64_1, nI_toInt hm]; omega, by rw [k64_8, nI_toInt hm]; omega⟩ w)
      have h42 : s1 63 42 = nI l := by rw [hag 63 42 (by decide), t2 63 42 (by omega) (by omega)]; exact h2
      rw [h42, hadd]
      refine ⟨fun _ x3 ex3 => ?_, fun w2 => absurd ((ht2 _ (by omega)).mpr (by omega)) w2⟩
      rw [ex3]
      refine ⟨m + 1, app9 m l s1 h42 (by omega) hm8 (fun ρ r1 r2 r3 => ?_)⟩
      have hfr : ∀ a b, ¬ (a = 63 ∧ b = 0) → ¬ (a = 63 ∧ b = 42) → ¬ (a = 86 ∧ l ≤ b) → ¬ (a = 5 ∧ b = 1) → ¬ (a = 6 ∧ l ≤ b) → ρ a b = σ a b := fun a b g1 g2 g3 g4 g5 => by rw [r2 a b g2 g3, hag a b g1, t2 a b g4 g5]
      have h51 : ρ 5 1 = nI (l + m) := by rw [r2 5 1 (by omega) (by omega), hag 5 1 (by decide), t1]
      refine leaf hQ ?_ (by rw [t1, r1])
      refine ⟨n, t, (fr_sc hs (fun a b hf => ?_)).mono (by omega), fr_st hst (fun a b hf => ?_), fr_tk hs.2.1 htk (fun a b hf => ?_), fr_mo hmo (fun a b hf => ?_), fr_ru hru (fun a b hf => ?_), ⟨l + m, by omega, h51, r1, fun j hj => ?_⟩, fr_as has (fun a b hf => ?_)⟩
      all_goals try (exact hfr a b (by omega) (by omega) (by omega) (by omega) (by omega))
      by_cases hjl : j < l
      · rw [hfr 86 j (by omega) (by omega) (by omega) (by omega) (by omega), hfr 6 j (by omega) (by omega) (by omega) (by omega) (by omega)]
        exact h3 j hjl
      · obtain ⟨i, rfl⟩ : ∃ i, j = l + i := ⟨j - l, by omega⟩
        rw [r3 i (by omega), r2 6 (l + i) (by omega) (by omega), hag 6 (l + i) (by omega), t3 i (by omega)]
        exact byte_e _
  · intro s1 e1
    obtain ⟨hI, hag⟩ := th hh e1
    exact R9_in (fun w => absurd w hz) (fun _ => tf0 (hQ _ _ hI))
