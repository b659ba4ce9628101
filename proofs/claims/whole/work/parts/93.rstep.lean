/-! rules: the reference's tokens (u_tn, g_or, g_shl: the kit's own rows of laws/BITS.to-paste) -/
theorem u_tn {n : Nat} (h : n < 2 ^ 64) : (UInt64.ofNat n).toNat = n := Nat.mod_eq_of_lt h
theorem g_or {k p a b : Nat} (hp : 2 ^ k = p) (ha : a < p) (h : b * p + a < 2 ^ 64) : lN (b * p) ||| lN a = lN (b * p + a) := by
  subst hp
  have h1 : b * 2 ^ k ||| a = b * 2 ^ k + a := by rw [← Nat.shiftLeft_eq, Nat.shiftLeft_add_eq_or_of_lt ha]
  have h3 : UInt64.ofNat (b * 2 ^ k) ||| UInt64.ofNat a = UInt64.ofNat (b * 2 ^ k + a) := UInt64.toNat_inj.mp (by rw [UInt64.toNat_or, u_tn (by omega), u_tn (by omega), u_tn h, h1])
  have h2 := congrArg UInt64.toInt64 h3
  exact h2
theorem g_shl {a k p : Nat} {y : Int64} (hy : y.toBitVec.smod 64 = BitVec.ofNat 64 k) (hk : k < 64) (hp : 2 ^ k = p) (ha : a < 2 ^ 64) : lN a <<< y = lN (a * p) := by
  subst hp
  apply Int64.toBitVec_inj.mp
  rw [Int64.toBitVec_shiftLeft, hy]
  apply BitVec.eq_of_toNat_eq
  have hb : (lN a).toBitVec.toNat = a := Nat.mod_eq_of_lt ha
  have hk' : (BitVec.ofNat 64 k).toNat = k := Nat.mod_eq_of_lt (by omega)
  have h : ((lN a).toBitVec <<< BitVec.ofNat 64 k).toNat = (a * 2 ^ k) % 2 ^ 64 := by simp only [BitVec.shiftLeft_eq', BitVec.toNat_shiftLeft, hb, hk', Nat.shiftLeft_eq]
  exact h
theorem wd_s {m b : Nat} (hm : m < 2 ^ 50) (hb : b < 256) : (lN m <<< ((8 : Int32).toInt64 &&& 63)) ||| (nI b).toInt64 = lN (m * 256 + b) := by
  rw [nI_l (by omega), g_shl (k := 8) (p := 256) (by decide) (by decide) (by decide) (by omega), g_or (k := 8) (p := 256) (by decide) hb (by omega)]
theorem cmp_0 (x y : Int64) : lg_cmp x y = 0 ↔ x = y := by
  have h1 := cmp_lt x y
  have h2 := cmp_gt x y
  constructor
  · intro h
    rw [h] at h1 h2
    have n1 : ¬ x < y := fun z => absurd (h1.mpr z) (by decide)
    have n2 : ¬ y < x := fun z => absurd (h2.mpr z) (by decide)
    rw [Int64.lt_iff_toInt_lt] at n1 n2
    apply Int64.toInt_inj.mp
    omega
  · intro h
    subst h
    have n1 : ¬ lg_cmp x x < 0 := fun z => absurd (h1.mp z) (by rw [Int64.lt_iff_toInt_lt]; omega)
    have n2 : ¬ 0 < lg_cmp x x := fun z => absurd (h2.mp z) (by rw [Int64.lt_iff_toInt_lt]; omega)
    rw [Int32.lt_iff_toInt_lt, k32_0] at n1 n2
    apply Int32.toInt_inj.mp
    rw [k32_0]
    omega
def TV9 (B : Nat → Nat) (l : Nat) (σ : ST) : Prop := l ≤ 300 ∧ σ 63 44 = nI l ∧ ∀ j, j < l → B j < 256 ∧ σ 86 j = nI (B j)
theorem TV9.fr {B : Nat → Nat} {l : Nat} {σ τ : ST} (h : TV9 B l σ) (e : ∀ a b, (a = 63 ∧ b = 44) ∨ a = 86 → τ a b = σ a b) : TV9 B l τ := ⟨h.1, by rw [e 63 44 (Or.inl ⟨rfl, rfl⟩)]; exact h.2.1, fun j hj => by rw [e 86 j (Or.inr rfl)]; exact h.2.2 j hj⟩
theorem by9 {B : Nat → Nat} {l p : Nat} {σ : ST} (h : TV9 B l σ) (hp : p < l) {Q : Int32 → ST → Prop} (hQ : Q (nI (B p)) σ) : w_X9_byteAt σ (nI p) Q := by
  obtain ⟨h1, h2, h3⟩ := h
  refine ⟨fun z => absurd z (by rw [h2]; exact nI_ge hp (by omega)), fun _ => ⟨vp_in_nI (by omega) (by decide), ?_⟩⟩
  rw [nI_clamp (show p < 2 ^ 31 by omega), (h3 p hp).2]
  exact hQ
theorem by9e {B : Nat → Nat} {l p : Nat} {σ : ST} (h : TV9 B l σ) (hp : l ≤ p) (hp2 : p < 2 ^ 31) {Q : Int32 → ST → Prop} (hQ : Q (-1000000) σ) : w_X9_byteAt σ (nI p) Q := by
  obtain ⟨h1, h2, h3⟩ := h
  exact ⟨fun _ => hQ, fun z => absurd (by rw [h2]; exact nI_le hp hp2) z⟩
theorem ltr9 {b : Nat} (hb : b < 256) {σ : ST} {Q : Int32 → ST → Prop} (h1 : ltr b = true → Q 1 σ) (h0 : ltr b = false → Q 0 σ) : w_X9_isLetter σ (nI b) Q := by
  have e1 : nI b < 97 ↔ b < 97 := nI_ltI (b := 97) (by omega) (by decide)
  have e2 : (122 : Int32) < nI b ↔ 122 < b := nI_ltI (a := 122) (by decide) (by omega)
  unfold w_X9_isLetter
  rw [e1, e2]
  exact ⟨fun z => h0 (decide_eq_false (by omega)), fun z => ⟨fun z2 => h0 (decide_eq_false (by omega)), fun z2 => h1 (decide_eq_true (by omega))⟩⟩
theorem fig9 {b : Nat} (hb : b < 256) {σ : ST} {Q : Int32 → ST → Prop} (h1 : fig b = true → Q 1 σ) (h0 : fig b = false → Q 0 σ) : w_X9_isFigure σ (nI b) Q := by
  have e1 : nI b < 48 ↔ b < 48 := nI_ltI (b := 48) (by omega) (by decide)
  have e2 : (57 : Int32) < nI b ↔ 57 < b := nI_ltI (a := 57) (by decide) (by omega)
  unfold w_X9_isFigure
  rw [e1, e2]
  exact ⟨fun z => h0 (decide_eq_false (by omega)), fun z => ⟨fun z2 => h0 (decide_eq_false (by omega)), fun z2 => h1 (decide_eq_true (by omega))⟩⟩
theorem ltr9e {σ : ST} {Q : Int32 → ST → Prop} (h0 : Q 0 σ) : w_X9_isLetter σ (-1000000) Q := ⟨fun _ => h0, fun z => absurd (by decide) z⟩
theorem fig9e {σ : ST} {Q : Int32 → ST → Prop} (h0 : Q 0 σ) : w_X9_isFigure σ (-1000000) Q := ⟨fun _ => h0, fun z => absurd (by decide) z⟩
theorem sk9 {B : Nat → Nat} {l : Nat} {K : ST → Prop} {Q : ST → Prop} : ∀ (d p : Nat) (σ : ST), p + d = l → TV9 B l σ → σ 63 45 = nI p → (∀ τ, τ 63 45 = nI (eN B l blk p) → (∀ a b, ¬ (a = 63 ∧ b = 45) → τ a b = σ a b) → K τ) → w_X9_step_L0 K Q (d + 1) σ := by
  intro d
  induction d with
  | zero =>
    intro p σ hp h h45 hK
    have hl := h.1
    have hK' := hK σ (by rw [eN_l (by omega)]; exact h45) (fun _ _ _ => rfl)
    unfold w_X9_step_L0
    rw [h45]
    refine by9e h (by omega) (by omega) ⟨fun z => absurd z (by decide), fun _ => ?_⟩
    rw [h45]
    exact by9e h (by omega) (by omega) ⟨fun _ => hK', fun z => absurd z (by decide)⟩
  | succ d ih =>
    intro p σ hp h h45 hK
    have hb := (h.2.2 p (by omega)).1
    have e1 := lit (x := 32) (n := 32) (b := B p) rfl (by decide) hb
    have e2 := lit (x := 10) (n := 10) (b := B p) rfl (by decide) hb
    have nxt : blk (B p) = true → ∀ s2 : ST, s2 = up σ 63 45 ((σ 63 45) + 1) → w_X9_step_L0 K Q (d + 1) s2 := fun c s2 es2 => by
      rw [h45, nI_1] at es2
      exact ih (p + 1) s2 (by omega) (h.fr (fun a b hab => by rw [es2, up_ne _ _ (by omega)])) (by rw [es2, up_self]) (fun τ t1 t2 => hK τ (by rw [eN_y (by omega) c]; exact t1) (fun a b hab => by rw [t2 a b hab, es2, up_ne _ _ hab]))
    unfold w_X9_step_L0
    conv => arg 2; rw [h45]
    refine by9 h (by omega) ?_
    rw [e1]
    refine ⟨fun z => nxt (by unfold blk; simp [z]), fun z => ?_⟩
    conv => arg 2; rw [h45]
    refine by9 h (by omega) ?_
    rw [e2]
    refine ⟨fun z2 => hK σ (by rw [eN_n (by unfold blk; simp [z, z2])]; exact h45) (fun _ _ _ => rfl), fun z2 => nxt (by unfold blk; simp [z2])⟩
theorem nm9 {B : Nat → Nat} {l : Nat} {K : ST → Prop} {Q : ST → Prop} : ∀ (d p : Nat) (σ : ST), p + d = l → TV9 B l σ → σ 63 45 = nI p → (∀ τ, τ 63 45 = nI (eN B l ltr p) → (∀ a b, ¬ (a = 63 ∧ b = 45) → τ a b = σ a b) → K τ) → w_X9_step_L77 K Q (d + 1) σ := by
  intro d
  induction d with
  | zero =>
    intro p σ hp h h45 hK
    have hl := h.1
    have hK' := hK σ (by rw [eN_l (by omega)]; exact h45) (fun _ _ _ => rfl)
    unfold w_X9_step_L77
    conv => arg 2; rw [h45]
    exact by9e h (by omega) (by omega) (ltr9e (tt0 hK'))
  | succ d ih =>
    intro p σ hp h h45 hK
    have hb := (h.2.2 p (by omega)).1
    unfold w_X9_step_L77
    conv => arg 2; rw [h45]
    refine by9 h (by omega) (ltr9 hb (fun c => tt1 (fun s2 es2 => ?_)) (fun c => tt0 (hK σ (by rw [eN_n c]; exact h45) (fun _ _ _ => rfl))))
    rw [h45, nI_1] at es2
    exact ih (p + 1) s2 (by omega) (h.fr (fun a b hab => by rw [es2, up_ne _ _ (by omega)])) (by rw [es2, up_self]) (fun τ t1 t2 => hK τ (by rw [eN_y (by omega) c]; exact t1) (fun a b hab => by rw [t2 a b hab, es2, up_ne _ _ hab]))
theorem nu9 {B : Nat → Nat} {l : Nat} {K : ST → Prop} {Q : ST → Prop} : ∀ (d p : Nat) (σ : ST), p + d = l → TV9 B l σ → σ 63 45 = nI p → (∀ τ, τ 63 45 = nI (eN B l fig p) → (∀ a b, ¬ (a = 63 ∧ b = 45) → τ a b = σ a b) → K τ) → w_X9_step_L137 K Q (d + 1) σ := by
  intro d
  induction d with
  | zero =>
    intro p σ hp h h45 hK
    have hl := h.1
    have hK' := hK σ (by rw [eN_l (by omega)]; exact h45) (fun _ _ _ => rfl)
    unfold w_X9_step_L137
    conv => arg 2; rw [h45]
    exact by9e h (by omega) (by omega) (fig9e (tt0 hK'))
  | succ d ih =>
    intro p σ hp h h45 hK
    have hb := (h.2.2 p (by omega)).1
    unfold w_X9_step_L137
    conv => arg 2; rw [h45]
    refine by9 h (by omega) (fig9 hb (fun c => tt1 (fun s2 es2 => ?_)) (fun c => tt0 (hK σ (by rw [eN_n c]; exact h45) (fun _ _ _ => rfl))))
    rw [h45, nI_1] at es2
    exact ih (p + 1) s2 (by omega) (h.fr (fun a b hab => by rw [es2, up_ne _ _ (by omega)])) (by rw [es2, up_self]) (fun τ t1 t2 => hK τ (by rw [eN_y (by omega) c]; exact t1) (fun a b hab => by rw [t2 a b hab, es2, up_ne _ _ hab]))
def rk (k : Nat) : Nat := (k + 1) % 5
def kV9 (t : Tok) (σ : ST) : Prop := σ 63 46 = nI (rk t.1) ∧ σ 63 47 = nI t.2.1 ∧ σ 63 45 = nI t.2.2 ∧ σ 63 48 = nI t.2.2
theorem step9 {B : Nat → Nat} {l p : Nat} {σ : ST} (hp : p ≤ l) (h : TV9 B l σ) (h45 : σ 63 45 = nI p) {Q : ST → Prop} (hQ : ∀ τ, kV9 (tk B l p) τ → (∀ a b, ¬ (a = 63 ∧ 45 ≤ b ∧ b ≤ 48) → τ a b = σ a b) → Q τ) : w_X9_step σ Q := by
  have h2 : eN B l blk p ≤ l := rn_le _ _ hp
  have hl := h.1
  refine ⟨l - p + 1, sk9 (l - p) p σ (by omega) h h45 (fun s4 t1 t2 s5 e5 => ?_)⟩
  unfold tk at hQ
  generalize eN B l blk p = s at *
  rw [t1] at e5
  have T5 : TV9 B l s5 := h.fr (fun a b hab => by rw [e5, up_ne _ _ (by omega), t2 _ _ (by omega)])
  have a5 : ∀ a b, ¬ (a = 63 ∧ (b = 45 ∨ b = 47)) → s5 a b = σ a b := fun a b hab => by rw [e5, up_ne _ _ (by omega), t2 _ _ (by omega)]
  have x7 : s5 63 47 = nI s := by rw [e5, up_self]
  have x5 : s5 63 45 = nI s := by rw [e5, up_ne _ _ (by omega)]; exact t1
  -- the last two writes
  have fin : ∀ (s6 : ST) (k q : Nat) (v : Int32), TV9 B l s6 → s6 63 45 = nI q → s6 63 47 = nI s → (∀ a b, ¬ (a = 63 ∧ (b = 45 ∨ b = 47)) → s6 a b = σ a b) → tkA B l s = (k, s, q) → v = nI (rk k) → ∀ s10 : ST, s10 = up s6 63 46 v → w_X9_step_J214 Q s10 := by
    intro s6 k q v _ y5 y7 y0 et ev s10 e10 s11 e11
    have z5 : s10 63 45 = nI q := by rw [e10, up_ne _ _ (by omega)]; exact y5
    rw [z5] at e11
    refine hQ s11 ?_ (fun a b hab => by rw [e11, up_ne _ _ (by omega), e10, up_ne _ _ (by omega)]; exact y0 a b (by omega))
    rw [et]
    exact ⟨by rw [e11, up_ne _ _ (by omega), e10, up_self]; exact ev, by rw [e11, up_ne _ _ (by omega), e10, up_ne _ _ (by omega)]; exact y7, by rw [e11, up_ne _ _ (by omega)]; exact z5, by rw [e11, up_self]⟩
  unfold tkA at fin
  conv => arg 2; rw [x5]
  by_cases c1 : l ≤ s
  · rw [if_pos c1] at fin
    exact by9e T5 c1 (by omega) ⟨fun z => absurd rfl z, fun _ s23 e23 => fin s5 0 s 1 T5 x5 x7 a5 rfl rfl s23 e23⟩
  · rw [if_neg c1] at fin
    have hb := (T5.2.2 s (by omega)).1
    refine by9 T5 (by omega) ⟨fun _ => ?_, fun z => absurd z ?_⟩
    · refine ltr9 hb (fun c2 => tt1 ?_) (fun c2 => tt0 ?_)
      · rw [if_pos c2] at fin
        have g1 : s ≤ eN B l ltr s := rn_ge _ _
        have g2 : eN B l ltr s ≤ l := rn_le _ _ h2
        refine ⟨l - s + 1, nm9 (l - s) s s5 (by omega) T5 x5 (fun s6 u1 u2 => ?_)⟩
        have y7 : s6 63 47 = nI s := by rw [u2 _ _ (by omega)]; exact x7
        have y0 : ∀ a b, ¬ (a = 63 ∧ (b = 45 ∨ b = 47)) → s6 a b = σ a b := fun a b hab => by rw [u2 _ _ (by omega)]; exact a5 a b hab
        have T6 : TV9 B l s6 := T5.fr (fun a b hab => u2 a b (by omega))
        rw [u1, y7, pk_sub g1]
        have e6 : nI (eN B l ltr s - s) ≤ 6 ↔ eN B l ltr s - s ≤ 6 := nI_leI (b := 6) (by omega) (by decide)
        rw [e6]
        refine ⟨fun c => ?_, fun c => ?_⟩
        · rw [if_pos c] at fin
          exact fin s6 1 _ 2 T6 u1 y7 y0 rfl rfl
        · rw [if_neg c] at fin
          exact fin s6 4 _ 0 T6 u1 y7 y0 rfl rfl
      · rw [if_neg (by rw [c2]; decide)] at fin
        refine fig9 hb (fun c3 => tt1 ?_) (fun c3 => tt0 ?_)
        · rw [if_pos c3] at fin
          have g1 : s ≤ eN B l fig s := rn_ge _ _
          have g2 : eN B l fig s ≤ l := rn_le _ _ h2
          refine ⟨l - s + 1, nu9 (l - s) s s5 (by omega) T5 x5 (fun s6 u1 u2 => ?_)⟩
          have y7 : s6 63 47 = nI s := by rw [u2 _ _ (by omega)]; exact x7
          have y0 : ∀ a b, ¬ (a = 63 ∧ (b = 45 ∨ b = 47)) → s6 a b = σ a b := fun a b hab => by rw [u2 _ _ (by omega)]; exact a5 a b hab
          have T6 : TV9 B l s6 := T5.fr (fun a b hab => u2 a b (by omega))
          rw [u1, y7, pk_sub g1]
          have e6 : nI (eN B l fig s - s) ≤ 5 ↔ eN B l fig s - s ≤ 5 := nI_leI (b := 5) (by omega) (by decide)
          rw [e6]
          refine ⟨fun c => ?_, fun c => ?_⟩
          · rw [if_pos c] at fin
            exact fin s6 2 _ 3 T6 u1 y7 y0 rfl rfl
          · rw [if_neg c] at fin
            exact fin s6 4 _ 0 T6 u1 y7 y0 rfl rfl
        · rw [if_neg (by rw [c3]; decide)] at fin
          intro s6 e6
          rw [x5, nI_1] at e6
          have e59 := lit (x := 59) (n := 59) (b := B s) rfl (by decide) hb
          have T6 : TV9 B l s6 := T5.fr (fun a b hab => by rw [e6, up_ne _ _ (by omega)])
          have y7 : s6 63 47 = nI s := by rw [e6, up_ne _ _ (by omega)]; exact x7
          have y0 : ∀ a b, ¬ (a = 63 ∧ (b = 45 ∨ b = 47)) → s6 a b = σ a b := fun a b hab => by rw [e6, up_ne _ _ (by omega)]; exact a5 a b hab
          rw [e59]
          refine ⟨fun c => ?_, fun c => ?_⟩
          · rw [if_neg c] at fin
            exact fin s6 4 _ 0 T6 (by rw [e6, up_self]) y7 y0 rfl rfl
          · rw [if_pos c] at fin
            exact fin s6 3 _ 4 T6 (by rw [e6, up_self]) y7 y0 rfl rfl
    · intro z
      have := congrArg Int32.toInt z
      rw [nI_toInt (by omega), show (-1000000 : Int32).toInt = -1000000 from rfl] at this
      omega
/-! words and numbers -/
def pkf (f : Nat → Nat) : Nat → Nat
  | 0 => 0
  | k + 1 => pkf f k * 256 + f k
theorem pkf_lt {f : Nat → Nat} : ∀ k, (∀ j, j < k → f j < 256) → pkf f k < 256 ^ k := by
  intro k
  induction k with
  | zero => intro _; exact (by decide : 0 < 1)
  | succ k ih =>
    intro h
    have h1 := ih (fun j hj => h j (by omega))
    have h2 := h k (by omega)
    unfold pkf
    rw [Nat.pow_succ]
    omega
theorem pkf_inj {f g : Nat → Nat} : ∀ k m, (∀ j, j < k → 1 ≤ f j ∧ f j < 256) → (∀ j, j < m → 1 ≤ g j ∧ g j < 256) → pkf f k = pkf g m → k = m ∧ ∀ j, j < k → f j = g j := by
  intro k
  induction k with
  | zero =>
    intro m _ hg e
    cases m with
    | zero => exact ⟨rfl, fun j hj => absurd hj (by omega)⟩
    | succ m =>
      have := (hg m (by omega)).1
      unfold pkf at e
      omega
  | succ k ih =>
    intro m hf hg e
    cases m with
    | zero =>
      have := (hf k (by omega)).1
      unfold pkf at e
      omega
    | succ m =>
      have a1 := hf k (by omega)
      have a2 := hg m (by omega)
      unfold pkf at e
      obtain ⟨i1, i2⟩ := ih m (fun j hj => hf j (by omega)) (fun j hj => hg j (by omega)) (by omega)
      subst i1
      refine ⟨rfl, fun j hj => ?_⟩
      by_cases ej : j = k
      · subst ej; omega
      · exact i2 j (by omega)
theorem pkf_congr {f g : Nat → Nat} : ∀ k, (∀ j, j < k → f j = g j) → pkf f k = pkf g k := by
  intro k
  induction k with
  | zero => intro _; rfl
  | succ k ih =>
    intro h
    unfold pkf
    rw [ih (fun j hj => h j (by omega)), h k (by omega)]
def wv (B : Nat → Nat) (t : Tok) : Nat := if t.1 = 1 then pkf (fun j => B (t.2.1 + j)) (t.2.2 - t.2.1) else 0
def cW (i : Nat) : Nat := [1752132708, 1918986606, 1919250036, 2054123109, 6385273, 482854658917, 1885434484].getD i 0
theorem cW_e : ∀ i, i < 7 → cW i = pkf (chW i) (lenW i) ∧ cW i < 2 ^ 50 ∧ 0 < cW i := by decide +kernel
theorem rk_e {k : Nat} (h : k ≤ 4) : (nI (rk k) = 2 ↔ k = 1) ∧ (nI (rk k) = 3 ↔ k = 2) ∧ (nI (rk k) = 4 ↔ k = 3) ∧ (nI (rk k) = 1 ↔ k = 0) := by
  rcases (show k = 0 ∨ k = 1 ∨ k = 2 ∨ k = 3 ∨ k = 4 by omega) with e | e | e | e | e <;> subst e <;> decide
theorem isw_c {B : Nat → Nat} {l p : Nat} {t : Tok} (ht : tkOk B l p t) {i : Nat} (hi : i < 7) {C : Int64} (hC : C = lN (cW i)) : lg_cmp (lN (wv B t)) C = 0 ↔ isw B t i = true := by
  obtain ⟨a1, a2, a3, a4, a5, a6, a7, a8⟩ := ht
  obtain ⟨c1, c2, c3⟩ := cW_e i hi
  have hch := ch_e i hi
  rw [cmp_0, hC, isw_e]
  unfold wv
  by_cases e : t.1 = 1
  · rw [if_pos e]
    obtain ⟨b1, b2⟩ := a7 e
    have hlt : pkf (fun j => B (t.2.1 + j)) (t.2.2 - t.2.1) < 2 ^ 50 := by
      have h1 := pkf_lt (f := fun j => B (t.2.1 + j)) (t.2.2 - t.2.1) (fun j hj => by have := ltr_b (b2 (t.2.1 + j) (by omega) (by omega)); omega)
      have h2 : 256 ^ (t.2.2 - t.2.1) ≤ 256 ^ 6 := Nat.pow_le_pow_right (by decide) b1
      have h3 : 256 ^ 6 < 2 ^ 50 := by decide
      omega
    rw [pk_lEQ (by omega) (by omega), c1]
    constructor
    · intro h
      obtain ⟨q1, q2⟩ := pkf_inj _ _ (fun j hj => by have := ltr_b (b2 (t.2.1 + j) (by omega) (by omega)); omega) (fun j hj => by have := hch j hj; omega) h
      exact ⟨e, q1, fun j hj => q2 j (by omega)⟩
    · rintro ⟨-, q1, q2⟩
      rw [q1]
      exact pkf_congr _ (fun j hj => q2 j hj)
  · rw [if_neg e, pk_lEQ (by omega) (by omega)]
    exact ⟨fun z => by omega, fun z => absurd z.1 e⟩
theorem word9 {B : Nat → Nat} {l p : Nat} {t : Tok} {σ : ST} (hT : TV9 B l σ) (hk : kV9 t σ) (ht : tkOk B l p t) {Q : Int64 → ST → Prop} (hQ : Q (lN (wv B t)) σ) : w_X9_word σ Q := by
  obtain ⟨k1, k2, k3, k4'⟩ := hk
  obtain ⟨a1, a2, a3, a4, a5, a6, a7, a8⟩ := ht
  have hl := hT.1
  intro x ex
  rw [ex, k2]
  by_cases e : t.1 = 1
  · obtain ⟨b1, b2⟩ := a7 e
    have go : ∀ (d j : Nat), t.2.1 + j + d = t.2.2 → w_X9_word_L7 (fun (s1 : ST) (y2 : Int64) => Q y2 s1) Q (d + 1) σ (lN (pkf (fun j => B (t.2.1 + j)) j)) (nI (t.2.1 + j)) := by
      intro d
      induction d with
      | zero =>
        intro j hj
        refine ⟨fun _ => ?_, fun z => absurd (by rw [k4', show t.2.1 + j = t.2.2 by omega]; exact Int32.le_refl _) z⟩
        unfold wv at hQ
        rw [if_pos e, show t.2.2 - t.2.1 = j by omega] at hQ
        exact hQ
      | succ d ih =>
        intro j hj
        refine ⟨fun z => absurd z (by rw [k4']; exact nI_ge (by omega) (by omega)), fun _ => ⟨fun z => absurd ?_ z, fun _ => ⟨vp_in_nI (by omega) (by decide), fun y ey x2 ex2 => ?_⟩⟩⟩
        · rw [k1]; exact (rk_e a4).1.mpr e
        · have hb := (hT.2.2 (t.2.1 + j) (by omega))
          have hlt : pkf (fun j => B (t.2.1 + j)) j < 2 ^ 50 := by
            have h1 := pkf_lt (f := fun j => B (t.2.1 + j)) j (fun q hq => by have := ltr_b (b2 (t.2.1 + q) (by omega) (by omega)); omega)
            have h2 : 256 ^ j ≤ 256 ^ 6 := Nat.pow_le_pow_right (by decide) (by omega)
            have h3 : 256 ^ 6 < 2 ^ 50 := by decide
            omega
          rw [nI_clamp (show t.2.1 + j < 2 ^ 31 by omega), hb.2, wd_s hlt hb.1] at ey
          rw [ey, ex2, nI_1]
          exact ih (j + 1) (by omega)
    exact ⟨t.2.2 - t.2.1 + 1, go (t.2.2 - t.2.1) 0 (by omega)⟩
  · unfold wv at hQ
    rw [if_neg e] at hQ
    refine ⟨1, fun _ => hQ, fun _ => ⟨fun _ => hQ, fun z => absurd ?_ e⟩⟩
    rw [k1] at z
    exact (rk_e a4).1.mp z
theorem num9 {B : Nat → Nat} {l p : Nat} {t : Tok} {σ : ST} {v1 v2 : Int32} (hT : TV9 B l σ) (hk : kV9 t σ) (ht : tkOk B l p t) {K : ST → Int32 → Prop} {Q : Int32 → ST → Prop} (hK : K σ (nI (if t.1 = 2 then dg B t.2.1 (t.2.2 - t.2.1) else 0))) : ∃ n, w_X9_numberIn_L8 v1 v2 K Q n σ 0 (nI t.2.1) := by
  obtain ⟨k1, k2, k3, k4'⟩ := hk
  obtain ⟨a1, a2, a3, a4, a5, a6, a7, a8⟩ := ht
  have hl := hT.1
  by_cases e : t.1 = 2
  · obtain ⟨b1, b2⟩ := a8 e
    rw [if_pos e] at hK
    have go : ∀ (d j : Nat), t.2.1 + j + d = t.2.2 → w_X9_numberIn_L8 v1 v2 K Q (d + 1) σ (nI (dg B t.2.1 j)) (nI (t.2.1 + j)) := by
      intro d
      induction d with
      | zero =>
        intro j hj
        refine ⟨fun _ => ?_, fun z => absurd (by rw [k4', show t.2.1 + j = t.2.2 by omega]; exact Int32.le_refl _) z⟩
        rw [show t.2.2 - t.2.1 = j by omega] at hK
        exact hK
      | succ d ih =>
        intro j hj
        refine ⟨fun z => absurd z (by rw [k4']; exact nI_ge (by omega) (by omega)), fun _ => ⟨fun z => absurd ?_ z, fun _ => ⟨vp_in_nI (by omega) (by decide), fun y ey x2 ex2 => ?_⟩⟩⟩
        · rw [k1]; exact (rk_e a4).2.1.mpr e
        · have hb := (hT.2.2 (t.2.1 + j) (by omega))
          have hf := fig_b (b2 (t.2.1 + j) (by omega) (by omega))
          rw [nI_clamp (show t.2.1 + j < 2 ^ 31 by omega), hb.2, show (10 : Int32) = nI 10 from rfl, pk_mul, nI_add, show (48 : Int32) = nI 48 from rfl, pk_sub (by omega)] at ey
          rw [ey, ex2, nI_1, show 10 * dg B t.2.1 j + B (t.2.1 + j) - 48 = dg B t.2.1 (j + 1) by show _ = dg B t.2.1 j * 10 + (B (t.2.1 + j) - 48); omega]
          exact ih (j + 1) (by omega)
    exact ⟨t.2.2 - t.2.1 + 1, go (t.2.2 - t.2.1) 0 (by omega)⟩
  · rw [if_neg e] at hK
    refine ⟨1, fun _ => hK, fun _ => ⟨fun _ => hK, fun z => absurd ?_ e⟩⟩
    rw [k1] at z
    exact (rk_e a4).2.1.mp z
