/-! walk: the class's plan -/
theorem and1 (x : Int32) : x &&& 1 = 0 ∨ x &&& 1 = 1 := by
  have h : (x &&& 1).toBitVec.toNat = x.toBitVec.toNat % 2 := by
    rw [Int32.toBitVec_and, BitVec.toNat_and]
    exact Nat.and_one_is_mod _
  rcases Nat.mod_two_eq_zero_or_one x.toBitVec.toNat with e | e
  · exact Or.inl (Int32.toBitVec_inj.mp (BitVec.eq_of_toNat_eq (h.trans e)))
  · exact Or.inr (Int32.toBitVec_inj.mp (BitVec.eq_of_toNat_eq (h.trans e)))
theorem bit0 (a : Int32) (i : Nat) : ((a >>> (nI i &&& 31)) &&& 1) = 0 ↔ ¬ bit1 a i = true := by
  unfold bit1
  rw [decide_eq_true_iff]
  constructor
  · intro e w; rw [e] at w; exact absurd w (by decide)
  · intro w
    rcases and1 (a >>> (nI i &&& 31)) with e | e
    · exact e
    · exact absurd e w
def bitc (a0 : Int32) : Int32 :=
  let x1 := (a0 - (((a0 : Int32).toUInt32 >>> ((1 : Int32).toUInt32 &&& Int32.toUInt32 31)).toInt32 &&& 1431655765))
  let x2 := ((x1 &&& 858993459) + (((x1 : Int32).toUInt32 >>> ((2 : Int32).toUInt32 &&& Int32.toUInt32 31)).toInt32 &&& 858993459))
  let x3 := ((x2 + ((x2 : Int32).toUInt32 >>> ((4 : Int32).toUInt32 &&& Int32.toUInt32 31)).toInt32) &&& 252645135)
  let x4 := (x3 + ((x3 : Int32).toUInt32 >>> ((8 : Int32).toUInt32 &&& Int32.toUInt32 31)).toInt32)
  let x5 := (x4 + ((x4 : Int32).toUInt32 >>> ((16 : Int32).toUInt32 &&& Int32.toUInt32 31)).toInt32)
  x5 &&& 63
theorem R_bitc {s : ST} {a : Int32} {Q : Int32 → ST → Prop} (h : Q (bitc a) s) : w_J6_bitCount_0f7a4 s a Q := by
  intro x1 e1 x2 e2 x3 e3 x4 e4 x5 e5
  subst e5 e4 e3 e2 e1
  exact h
theorem found_e {a b p : Nat} (ha : a ≤ 500) (hb : b ≤ 500) (hp : p < 7) : (if (0 : Int32) < (nI a - (nI p * nI b)) then (nI a - (nI p * nI b)) else 0) = nI (a - p * b) := by
  have hmul : p * b ≤ 7 * 500 := Nat.mul_le_mul (by omega) hb
  rw [pk_mul]
  generalize p * b = m at *
  by_cases h : m < a
  · rw [if_pos (by rw [Int32.lt_iff_toInt_lt, pk_sub_toInt (by omega) (by omega), k32_0]; omega), pk_sub (by omega)]
  · rw [if_neg (by rw [Int32.lt_iff_toInt_lt, pk_sub_toInt (by omega) (by omega), k32_0]; omega), show a - m = 0 by omega]
    rfl
theorem l12 {k v a b : Nat} {K : ST → Prop} {Q : ST → Prop} (hv : v < 7) (hk : 23 ≤ k) (ha : a ≤ 500) (hb : b ≤ 500) : ∀ (d p : Nat) (s : ST), p + d = 7 → s 17 3 = nI v → s k 5 = nI a → s k 6 = nI b → (∀ y, y < p → s 19 (v * 7 + y) = nI (a - y * b)) → (∀ τ, (∀ y, y < 7 → τ 19 (v * 7 + y) = nI (a - y * b)) → (∀ x y, ¬ (x = 19 ∧ v * 7 ≤ y) → τ x y = s x y) → (∀ y, y < v * 7 → τ 19 y = s 19 y) → K τ) → w_X1_addStop_L12 k K Q (d + 1) s (nI p) := by
  intro d
  induction d with
  | zero =>
    intro p s hp h1 h2 h3 h4 hK
    obtain rfl : p = 7 := by omega
    exact ⟨fun _ => hK s h4 (fun _ _ _ => rfl) (fun _ _ => rfl), fun w => absurd (Int32.le_refl _) w⟩
  | succ d ih =>
    intro p s hp h1 h2 h3 h4 hK
    refine ⟨fun w => absurd w (nI_ge (a := p) (b := 7) (by omega) (by omega)), fun _ => ?_⟩
    unfold w_X4_foundAt
    rw [h1, h2, h3, found_e ha hb (by omega), show (7 : Int32) = nI 7 from rfl, pk_mul, nI_add, nI_clamp (show v * 7 + p < 2 ^ 31 by omega)]
    refine ⟨vp_in_nI (by omega) (by decide), fun s3 e3 x ex => ?_⟩
    rw [ex, nI_1]
    refine ih (p + 1) s3 (by omega) (by rw [e3, up_ne _ _ (by omega)]; exact h1) (by rw [e3, up_ne _ _ (by omega)]; exact h2) (by rw [e3, up_ne _ _ (by omega)]; exact h3) (fun y hy => ?_) (fun τ t1 t2 t3 => hK τ t1 (fun x y hxy => by rw [t2 x y hxy, e3, up_ne _ _ (by omega)]) (fun y hy => by rw [t3 y hy, e3, up_ne _ _ (by omega)]))
    by_cases e : y = p
    · rw [e, e3, up_self]
    · rw [e3, up_ne _ _ (by omega)]; exact h4 y (by omega)
def frC (σ τ : ST) : Prop := ∀ x y, ¬ (x = 17 ∧ y = 3) → x ≠ 18 → x ≠ 19 → ¬ (x = 20 ∧ y ≠ 0) → τ x y = σ x y
/-- the stops and what is found at them -/
def plS (σ : ST) (l : List Nat) (s : ST) : Prop := s 17 3 = nI l.length ∧ ∀ v, v < l.length → s 18 v = nI (lg l v) ∧ ∀ y, y < 7 → s 19 (v * 7 + y) = nI (fS σ (lg l) v y)
theorem pos_mono (a : Int32) : ∀ (d m : Nat), (pos a m).length ≤ (pos a (m + d)).length ∧ ((pos a (m + d)).length ≤ (pos a m).length → pos a (m + d) = pos a m)
  | 0, m => ⟨Nat.le_refl _, fun _ => rfl⟩
  | d + 1, m => by
    obtain ⟨h1, h2⟩ := pos_mono a d m
    rw [show m + (d + 1) = (m + d) + 1 by omega, pos_succ]
    split
    · rw [List.length_append]
      simp only [List.length_cons, List.length_nil]
      exact ⟨by omega, fun w => absurd w (by omega)⟩
    · exact ⟨h1, h2⟩
theorem addStop_ok {σ s : ST} {l : List Nat} {i : Nat} {Q : ST → Prop} (hm : mNum σ) (hst : ISt σ) (hl : l.length < 7) (hi : i < 10) (hf : frC σ s) (h : plS σ l s) (hll : ∀ v, v < l.length → lg l v < 10) (hQ : ∀ τ, frC σ τ → plS σ (l ++ [i]) τ → Q τ) : w_X1_addStop s (nI i) (23 + i) Q := by
  obtain ⟨g1, g2⟩ := h
  unfold w_X1_addStop
  rw [g1, nI_clamp (show l.length < 2 ^ 31 by omega)]
  obtain ⟨z1, z2, z3, z4, z5, z6, z7, z8⟩ := hm i hi
  refine ⟨vp_in_nI (by omega) (by decide), fun s1 e1 => ⟨8, l12 (v := l.length) (a := N (σ 69 i)) (b := N (σ 70 i)) hl (by omega) z6 z8 7 0 s1 (by omega) (by rw [e1, up_ne _ _ (by omega)]; exact g1) ?_ ?_ (fun y hy => absurd hy (by omega)) (fun s4 t1 t2 t3 s5 e5 => ?_)⟩⟩
  · rw [e1, up_ne _ _ (by omega), hf _ _ (by omega) (by omega) (by omega) (by omega), (hst i hi).2.2.2.2.2.1]; exact z5
  · rw [e1, up_ne _ _ (by omega), hf _ _ (by omega) (by omega) (by omega) (by omega), (hst i hi).2.2.2.2.2.2]; exact z7
  · have h17 : s4 17 3 = nI l.length := by rw [t2 17 3 (by omega), e1, up_ne _ _ (by omega)]; exact g1
    rw [h17, nI_1] at e5
    refine hQ s5 (fun x y z1 z2 z3 z4 => ?_) ⟨?_, fun v hv => ?_⟩
    · rw [e5, up_ne _ _ z1, t2 x y (by omega), e1, up_ne _ _ (by omega), hf x y z1 z2 z3 z4]
    · rw [e5, up_self, List.length_append]; rfl
    · rw [List.length_append] at hv
      simp only [List.length_cons, List.length_nil] at hv
      unfold fS
      rw [lg_app]
      by_cases hv2 : v < l.length
      · rw [if_pos hv2]
        refine ⟨?_, fun y hy => ?_⟩
        · rw [e5, up_ne _ _ (by omega), t2 18 v (by omega), e1, up_ne _ _ (by omega)]; exact (g2 v hv2).1
        · rw [e5, up_ne _ _ (by omega), t3 _ (by omega), e1, up_ne _ _ (by omega)]; exact (g2 v hv2).2 y hy
      · obtain rfl : v = l.length := by omega
        rw [if_neg hv2, if_pos rfl]
        refine ⟨?_, fun y hy => ?_⟩
        · rw [e5, up_ne _ _ (by omega), t2 18 _ (by omega), e1, up_self]
        · rw [e5, up_ne _ _ (by omega)]; exact t1 y hy
theorem pos_lt (a : Int32) (m : Nat) : ∀ v, v < (pos a m).length → lg (pos a m) v < m := fun v hv => by
  have := lg_mem _ v hv
  unfold pos at this
  rw [List.mem_filter, List.mem_range] at this
  exact this.1
theorem pl7 {σ : ST} {a : Int32} {K : ST → Prop} {Q : ST → Prop} (hm : mNum σ) (hst : ISt σ) (h7 : (pos a 10).length ≤ 7) (hK : ∀ τ, frC σ τ → plS σ (pos a 10) τ → K τ) : ∀ (d m : Nat) (s : ST), m + d = 10 → frC σ s → plS σ (pos a m) s → w_X1_plan_L7 a K Q (d + 1) s (nI m) := by
  intro d
  induction d with
  | zero =>
    intro m s hmd hf h
    obtain rfl : m = 10 := by omega
    exact ⟨fun _ => hK s hf h, fun w => absurd (Int32.le_refl _) w⟩
  | succ d ih =>
    intro m s hmd hf h
    obtain ⟨p1, p2⟩ := pos_mono a (d + 1) m
    rw [hmd] at p1 p2
    refine ⟨fun w => absurd w (nI_ge (a := m) (b := 10) (by omega) (by omega)), fun _ => ?_⟩
    rw [h.1, show (7 : Int32) = nI 7 from rfl, nI_le' (by omega) (by omega), bit0]
    refine ⟨fun w => hK s hf (by rw [p2 (by omega)]; exact h), fun w => ⟨fun wb x ex => ?_, fun wb => ⟨vp_in_nI (by omega) (by decide), fun k ek => ?_⟩⟩⟩
    · rw [ex, nI_1]
      refine ih (m + 1) s (by omega) hf ?_
      rw [pos_succ, if_neg wb]; exact h
    · rw [ek, nI_clamp (show m < 2 ^ 31 by omega)]
      refine addStop_ok hm hst (by omega) (by omega) hf h (fun v hv => by have := pos_lt a m v hv; omega) (fun τ t1 t2 x ex => ?_)
      rw [ex, nI_1]
      refine ih (m + 1) τ (by omega) t1 ?_
      rw [pos_succ, if_pos (by simpa using wb)]; exact t2
