/-! rules: the text's tokens -/
def rn (c : Nat → Bool) (l : Nat) : Nat → Nat → Nat
  | 0, p => p
  | f + 1, p => if p < l ∧ c p = true then rn c l f (p + 1) else p
theorem rn_ge {c : Nat → Bool} {l : Nat} : ∀ (f p : Nat), p ≤ rn c l f p := by
  intro f
  induction f with
  | zero => intro p; exact Nat.le_refl _
  | succ f ih =>
    intro p
    unfold rn
    split
    · have := ih (p + 1); omega
    · exact Nat.le_refl _
theorem rn_le {c : Nat → Bool} {l : Nat} : ∀ (f p : Nat), p ≤ l → rn c l f p ≤ l := by
  intro f
  induction f with
  | zero => intro p h; exact h
  | succ f ih =>
    intro p h
    unfold rn
    split
    · exact ih (p + 1) (by omega)
    · exact h
theorem rn_mem {c : Nat → Bool} {l : Nat} : ∀ (f p q : Nat), p ≤ q → q < rn c l f p → c q = true := by
  intro f
  induction f with
  | zero => intro p q h1 h2; unfold rn at h2; omega
  | succ f ih =>
    intro p q h1 h2
    unfold rn at h2
    by_cases h : p < l ∧ c p = true
    · rw [if_pos h] at h2
      by_cases e : q = p
      · rw [e]; exact h.2
      · exact ih (p + 1) q (by omega) h2
    · rw [if_neg h] at h2; omega
def eN (B : Nat → Nat) (l : Nat) (c : Nat → Bool) (p : Nat) : Nat := rn (fun q => c (B q)) l (l - p) p
theorem eN_y {B : Nat → Nat} {l : Nat} {c : Nat → Bool} {p : Nat} (h : p < l) (hc : c (B p) = true) : eN B l c p = eN B l c (p + 1) := by
  unfold eN
  rw [show l - p = (l - (p + 1)) + 1 by omega]
  conv => lhs; unfold rn
  rw [if_pos ⟨h, hc⟩]
theorem eN_n {B : Nat → Nat} {l : Nat} {c : Nat → Bool} {p : Nat} (hc : c (B p) = false) : eN B l c p = p := by
  unfold eN
  cases l - p with
  | zero => rfl
  | succ f => unfold rn; rw [if_neg (by simp [hc])]
theorem eN_l {B : Nat → Nat} {l : Nat} {c : Nat → Bool} {p : Nat} (h : l ≤ p) : eN B l c p = p := by
  unfold eN
  rw [show l - p = 0 by omega]
  rfl
def blk (b : Nat) : Bool := b == 32 || b == 10
def ltr (b : Nat) : Bool := decide (97 ≤ b ∧ b ≤ 122)
def fig (b : Nat) : Bool := decide (48 ≤ b ∧ b ≤ 57)
abbrev Tok : Type := Nat × Nat × Nat
/-- the token behind p: sort (0 end, 1 name, 2 number, 3 sign, 4 none), where it begins, what stands behind it -/
def tkA (B : Nat → Nat) (l s : Nat) : Tok :=
  if l ≤ s then (0, s, s) else if ltr (B s) = true then (if eN B l ltr s - s ≤ 6 then 1 else 4, s, eN B l ltr s)
  else if fig (B s) = true then (if eN B l fig s - s ≤ 5 then 2 else 4, s, eN B l fig s) else (if B s = 59 then 3 else 4, s, s + 1)
def tk (B : Nat → Nat) (l p : Nat) : Tok := tkA B l (eN B l blk p)
def tkOk (B : Nat → Nat) (l p : Nat) (t : Tok) : Prop := p ≤ t.2.1 ∧ t.2.1 ≤ t.2.2 ∧ t.2.2 ≤ l ∧ t.1 ≤ 4 ∧ (t.1 ≠ 0 → t.2.1 < t.2.2) ∧ (t.2.1 < l → t.1 ≠ 0) ∧ (t.1 = 1 → t.2.2 - t.2.1 ≤ 6 ∧ ∀ q, t.2.1 ≤ q → q < t.2.2 → ltr (B q) = true) ∧ (t.1 = 2 → t.2.2 - t.2.1 ≤ 5 ∧ ∀ q, t.2.1 ≤ q → q < t.2.2 → fig (B q) = true)
theorem tk_ok {B : Nat → Nat} {l p : Nat} (h : p ≤ l) : tkOk B l p (tk B l p) := by
  have h1 : p ≤ eN B l blk p := rn_ge _ _
  have h2 : eN B l blk p ≤ l := rn_le _ _ h
  unfold tk
  generalize eN B l blk p = s at *
  unfold tkA tkOk
  by_cases c1 : l ≤ s
  · rw [if_pos c1]
    refine ⟨h1, Nat.le_refl _, h2, by simp, fun z => absurd rfl z, fun z => by simp only at z; omega, fun z => absurd z (by simp), fun z => absurd z (by simp)⟩
  · rw [if_neg c1]
    by_cases c2 : ltr (B s) = true
    · rw [if_pos c2]
      have g1 : s + 1 ≤ eN B l ltr s := by rw [eN_y (by omega) c2]; exact rn_ge _ _
      have g2 : eN B l ltr s ≤ l := rn_le _ _ h2
      refine ⟨h1, by simp only; omega, g2, by simp only; split <;> omega, fun _ => by simp only; omega, fun _ => by simp only; split <;> omega, fun z => ?_, fun z => ?_⟩
      · simp only at z ⊢
        refine ⟨?_, fun q q1 q2 => rn_mem (c := fun q => ltr (B q)) _ _ q q1 q2⟩
        split at z
        · assumption
        · omega
      · simp only at z
        split at z <;> omega
    · rw [if_neg c2]
      by_cases c3 : fig (B s) = true
      · rw [if_pos c3]
        have g1 : s + 1 ≤ eN B l fig s := by rw [eN_y (by omega) c3]; exact rn_ge _ _
        have g2 : eN B l fig s ≤ l := rn_le _ _ h2
        refine ⟨h1, by simp only; omega, g2, by simp only; split <;> omega, fun _ => by simp only; omega, fun _ => by simp only; split <;> omega, fun z => ?_, fun z => ?_⟩
        · simp only at z
          split at z <;> omega
        · simp only at z ⊢
          refine ⟨?_, fun q q1 q2 => rn_mem (c := fun q => fig (B q)) _ _ q q1 q2⟩
          split at z
          · assumption
          · omega
      · rw [if_neg c3]
        refine ⟨h1, by simp only; omega, by simp only; omega, by simp only; split <;> omega, fun _ => by simp only; omega, fun _ => by simp only; split <;> omega, fun z => ?_, fun z => ?_⟩
        · simp only at z
          split at z <;> omega
        · simp only at z
          split at z <;> omega
/-- the number of k figures from s on -/
def dg (B : Nat → Nat) (s : Nat) : Nat → Nat
  | 0 => 0
  | k + 1 => dg B s k * 10 + (B (s + k) - 48)
/-! the class's reader -/
def TV (B : Nat → Nat) (l : Nat) (σ : ST) : Prop := l ≤ 300 ∧ σ 5 1 = nI l ∧ ∀ j, j < l → B j < 256 ∧ σ 6 j &&& 255 = nI (B j)
theorem TV.fr {B : Nat → Nat} {l : Nat} {σ τ : ST} (h : TV B l σ) (e : ∀ a b, a = 5 ∨ a = 6 → τ a b = σ a b) : TV B l τ := ⟨h.1, by rw [e 5 1 (Or.inl rfl)]; exact h.2.1, fun j hj => by rw [e 6 j (Or.inr rfl)]; exact h.2.2 j hj⟩
theorem at8 {B : Nat → Nat} {l p : Nat} {σ : ST} (h : TV B l σ) (hp : p < l) {Q : Int32 → ST → Prop} (hQ : Q (nI (B p)) σ) : w_X5_at σ (nI p) Q := by
  obtain ⟨h1, h2, h3⟩ := h
  refine ⟨fun z => absurd z (nI_pos (by omega)), fun _ => ⟨fun z => absurd z (by rw [h2]; exact nI_ge hp (by omega)), fun _ => ⟨vp_in_nI (by omega) (by decide), ?_⟩⟩⟩
  rw [nI_clamp (show p < 2 ^ 31 by omega), (h3 p hp).2]
  exact hQ
theorem at8e {B : Nat → Nat} {l p : Nat} {σ : ST} (h : TV B l σ) (hp : l ≤ p) (hp2 : p < 2 ^ 31) {Q : Int32 → ST → Prop} (hQ : Q (-1) σ) : w_X5_at σ (nI p) Q := by
  obtain ⟨h1, h2, h3⟩ := h
  exact ⟨fun z => absurd z (nI_pos (by omega)), fun _ => ⟨fun _ => hQ, fun z => absurd (by rw [h2]; exact nI_le hp hp2) z⟩⟩
theorem lit {x : Int32} {n b : Nat} (hx : x = nI n) (hn : n < 2 ^ 31) (hb : b < 256) : nI b = x ↔ b = n := by rw [hx]; exact nI_eq (by omega) hn
theorem blk8 {b : Nat} (hb : b < 256) {σ : ST} {Q : Int32 → ST → Prop} (h1 : blk b = true → Q 1 σ) (h0 : blk b = false → Q 0 σ) : w_X2_isBlank σ (nI b) Q := by
  have e1 := lit (x := 32) (n := 32) (b := b) rfl (by decide) hb
  have e2 := lit (x := 10) (n := 10) (b := b) rfl (by decide) hb
  unfold w_X2_isBlank
  rw [e1, e2]
  unfold blk at h1 h0
  exact ⟨fun z => h1 (by simp [z]), fun z => ⟨fun z2 => h0 (by simp [z, z2]), fun z2 => h1 (by simp [z2])⟩⟩
theorem nar1 : narrow .boolean (.int 1) = .int 1 := rfl
theorem nar0 : narrow .boolean (.int 0) = .int 0 := rfl
theorem ltr8 {b : Nat} (hb : b < 256) {σ : ST} {Q : Int32 → ST → Prop} (h1 : ltr b = true → Q 1 σ) (h0 : ltr b = false → Q 0 σ) : w_X2_isLetter σ (nI b) Q := by
  have e1 : nI b < 97 ↔ b < 97 := nI_ltI (b := 97) (by omega) (by decide)
  have e2 : (122 : Int32) < nI b ↔ 122 < b := nI_ltI (a := 122) (by decide) (by omega)
  unfold w_X2_isLetter
  rw [e1, e2]
  exact ⟨fun z => h0 (decide_eq_false (by omega)), fun z => ⟨fun z2 => h0 (decide_eq_false (by omega)), fun z2 => h1 (decide_eq_true (by omega))⟩⟩
theorem fig8 {b : Nat} (hb : b < 256) {σ : ST} {Q : Int32 → ST → Prop} (h1 : fig b = true → Q 1 σ) (h0 : fig b = false → Q 0 σ) : w_X2_isFigure σ (nI b) Q := by
  have e1 : nI b < 48 ↔ b < 48 := nI_ltI (b := 48) (by omega) (by decide)
  have e2 : (57 : Int32) < nI b ↔ 57 < b := nI_ltI (a := 57) (by decide) (by omega)
  unfold w_X2_isFigure
  rw [e1, e2]
  exact ⟨fun z => h0 (decide_eq_false (by omega)), fun z => ⟨fun z2 => h0 (decide_eq_false (by omega)), fun z2 => h1 (decide_eq_true (by omega))⟩⟩
theorem sk8 {B : Nat → Nat} {l : Nat} {K : ST → Prop} {Q : ST → Prop} : ∀ (d p : Nat) (σ : ST), p + d = l → TV B l σ → σ 4 3 = nI p → (∀ τ, τ 4 3 = nI (eN B l blk p) → (∀ a b, ¬ (a = 4 ∧ b = 3) → τ a b = σ a b) → K τ) → w_X2_skipBlanks_L0 K Q (d + 1) σ := by
  intro d
  induction d with
  | zero =>
    intro p σ hp h h43 hK
    refine ⟨fun _ => hK σ (by rw [eN_l (by omega)]; exact h43) (fun _ _ _ => rfl), fun z => absurd ?_ z⟩
    rw [h.2.1, h43, show p = l by omega]; exact Int32.le_refl _
  | succ d ih =>
    intro p σ hp h h43 hK
    refine ⟨fun z => absurd z (by rw [h.2.1, h43]; exact nI_ge (by omega) (by have := h.1; omega)), fun _ => ?_⟩
    rw [h43]
    refine at8 h (by omega) (blk8 (h.2.2 p (by omega)).1 (fun c => tt1 (fun s3 e3 => ?_)) (fun c => tt0 (hK σ (by rw [eN_n c]; exact h43) (fun _ _ _ => rfl))))
    rw [h43, nI_1] at e3
    refine ih (p + 1) s3 (by omega) (h.fr (fun a b hab => by rw [e3, up_ne _ _ (by omega)])) (by rw [e3, up_self]) (fun τ t1 t2 => hK τ (by rw [eN_y (by omega) c]; exact t1) (fun a b hab => by rw [t2 a b hab, e3, up_ne _ _ hab]))
theorem nm8 {B : Nat → Nat} {l : Nat} {K : ST → Prop} {Q : ST → Prop} : ∀ (d p : Nat) (σ : ST), p + d = l → TV B l σ → σ 4 3 = nI p → (∀ τ, τ 4 3 = nI (eN B l ltr p) → (∀ a b, ¬ (a = 4 ∧ b = 3) → τ a b = σ a b) → K τ) → w_X2_passName_L0 K Q (d + 1) σ := by
  intro d
  induction d with
  | zero =>
    intro p σ hp h h43 hK
    refine ⟨fun _ => hK σ (by rw [eN_l (by omega)]; exact h43) (fun _ _ _ => rfl), fun z => absurd ?_ z⟩
    rw [h.2.1, h43, show p = l by omega]; exact Int32.le_refl _
  | succ d ih =>
    intro p σ hp h h43 hK
    refine ⟨fun z => absurd z (by rw [h.2.1, h43]; exact nI_ge (by omega) (by have := h.1; omega)), fun _ => ?_⟩
    rw [h43]
    refine at8 h (by omega) (ltr8 (h.2.2 p (by omega)).1 (fun c => tt1 (fun s3 e3 => ?_)) (fun c => tt0 (hK σ (by rw [eN_n c]; exact h43) (fun _ _ _ => rfl))))
    rw [h43, nI_1] at e3
    refine ih (p + 1) s3 (by omega) (h.fr (fun a b hab => by rw [e3, up_ne _ _ (by omega)])) (by rw [e3, up_self]) (fun τ t1 t2 => hK τ (by rw [eN_y (by omega) c]; exact t1) (fun a b hab => by rw [t2 a b hab, e3, up_ne _ _ hab]))
theorem dg_s {v b : Nat} (hb : 48 ≤ b) : nI v * 10 + (nI b - 48) = nI (v * 10 + (b - 48)) := by
  rw [show (10 : Int32) = nI 10 from rfl, pk_mul, show (48 : Int32) = nI 48 from rfl, pk_sub hb, nI_add]
theorem fig_b {b : Nat} (h : fig b = true) : 48 ≤ b ∧ b ≤ 57 := of_decide_eq_true h
theorem ltr_b {b : Nat} (h : ltr b = true) : 97 ≤ b ∧ b ≤ 122 := of_decide_eq_true h
theorem nu8 {B : Nat → Nat} {l s : Nat} {K : ST → Prop} {Q : ST → Prop} : ∀ (d p : Nat) (σ : ST), p + d = l → s ≤ p → TV B l σ → σ 4 2 = nI s → σ 4 3 = nI p → σ 4 4 = nI (dg B s (min (p - s) 5)) → (∀ τ, τ 4 3 = nI (eN B l fig p) → τ 4 4 = nI (dg B s (min (eN B l fig p - s) 5)) → (∀ a b, ¬ (a = 4 ∧ (b = 3 ∨ b = 4)) → τ a b = σ a b) → K τ) → w_X2_passNumber_L5 K Q (d + 1) σ := by
  intro d
  induction d with
  | zero =>
    intro p σ hp hs h h42 h43 h44 hK
    refine ⟨fun _ => hK σ (by rw [eN_l (by omega)]; exact h43) (by rw [eN_l (by omega)]; exact h44) (fun _ _ _ => rfl), fun z => absurd ?_ z⟩
    rw [h.2.1, h43, show p = l by omega]; exact Int32.le_refl _
  | succ d ih =>
    intro p σ hp hs h h42 h43 h44 hK
    have hl := h.1
    refine ⟨fun z => absurd z (by rw [h.2.1, h43]; exact nI_ge (by omega) (by omega)), fun _ => ?_⟩
    rw [h43]
    refine at8 h (by omega) (fig8 (h.2.2 p (by omega)).1 (fun c => tt1 ?_) (fun c => tt0 (hK σ (by rw [eN_n c]; exact h43) (by rw [eN_n c]; exact h44) (fun _ _ _ => rfl))))
    rw [h43, h42, pk_sub hs]
    have e5 : (5 : Int32) ≤ nI (p - s) ↔ 5 ≤ p - s := nI_leI (a := 5) (by decide) (by omega)
    rw [e5]
    refine ⟨fun c5 s4 e4 => ?_, fun c5 => at8 h (by omega) (fun s6 e6 s7 e7 => ?_)⟩
    · rw [nI_1] at e4
      refine ih (p + 1) s4 (by omega) (by omega) (h.fr (fun a b hab => by rw [e4, up_ne _ _ (by omega)])) (by rw [e4, up_ne _ _ (by omega)]; exact h42) (by rw [e4, up_self]) ?_ (fun τ t1 t2 t3 => hK τ (by rw [eN_y (by omega) c]; exact t1) (by rw [eN_y (by omega) c]; exact t2) (fun a b hab => by rw [t3 a b hab, e4, up_ne _ _ (by omega)]))
      rw [e4, up_ne _ _ (by omega), h44, show min (p + 1 - s) 5 = min (p - s) 5 by omega]
    · rw [h44, dg_s (fig_b c).1] at e6
      have e63 : s6 4 3 = nI p := by rw [e6, up_ne _ _ (by omega)]; exact h43
      rw [e63, nI_1] at e7
      refine ih (p + 1) s7 (by omega) (by omega) (h.fr (fun a b hab => by rw [e7, up_ne _ _ (by omega), e6, up_ne _ _ (by omega)])) (by rw [e7, up_ne _ _ (by omega), e6, up_ne _ _ (by omega)]; exact h42) (by rw [e7, up_self]) ?_ (fun τ t1 t2 t3 => hK τ (by rw [eN_y (by omega) c]; exact t1) (by rw [eN_y (by omega) c]; exact t2) (fun a b hab => by rw [t3 a b hab, e7, up_ne _ _ (by omega), e6, up_ne _ _ (by omega)]))
      rw [e7, up_ne _ _ (by omega), e6, up_self, show min (p - s) 5 = p - s by omega, show min (p + 1 - s) 5 = (p - s) + 1 by omega]
      show _ = nI (dg B s (p - s) * 10 + (B (s + (p - s)) - 48))
      rw [show s + (p - s) = p by omega]
/-- the class's token -/
def kV8 (B : Nat → Nat) (t : Tok) (σ : ST) : Prop := σ 4 1 = nI t.1 ∧ σ 4 2 = nI t.2.1 ∧ σ 4 3 = nI t.2.2 ∧ (t.1 = 2 → σ 4 4 = nI (dg B t.2.1 (t.2.2 - t.2.1)))
theorem adv8 {B : Nat → Nat} {l p : Nat} {σ : ST} (hp : p ≤ l) (h : TV B l σ) (h43 : σ 4 3 = nI p) {Q : ST → Prop} (hQ : ∀ τ, kV8 B (tk B l p) τ → (∀ a b, ¬ (a = 4 ∧ 1 ≤ b ∧ b ≤ 4) → τ a b = σ a b) → Q τ) : w_X2_advance σ Q := by
  have h2 : eN B l blk p ≤ l := rn_le _ _ hp
  have hl := h.1
  refine ⟨l - p + 1, sk8 (l - p) p σ (by omega) h h43 (fun s1 t1 t2 s2 e2 => ?_)⟩
  unfold tk at hQ
  generalize eN B l blk p = s at *
  rw [t1] at e2
  have T2 : TV B l s2 := h.fr (fun a b hab => by rw [e2, up_ne _ _ (by omega), t2 _ _ (by omega)])
  have a2 : ∀ a b, ¬ (a = 4 ∧ (b = 2 ∨ b = 3)) → s2 a b = σ a b := fun a b hab => by rw [e2, up_ne _ _ (by omega), t2 _ _ (by omega)]
  have x2 : s2 4 2 = nI s := by rw [e2, up_self]
  have x3 : s2 4 3 = nI s := by rw [e2, up_ne _ _ (by omega)]; exact t1
  rw [x2]
  unfold tkA at hQ
  by_cases c1 : l ≤ s
  · rw [if_pos c1] at hQ
    refine at8e T2 c1 (by omega) ⟨fun z => absurd rfl z, fun _ s11 e11 => hQ s11 ⟨by rw [e11, up_self]; rfl, by rw [e11, up_ne _ _ (by omega)]; exact x2, by rw [e11, up_ne _ _ (by omega)]; exact x3, fun z => absurd z (by simp)⟩ (fun a b hab => by rw [e11, up_ne _ _ (by omega), a2 a b (by omega)])⟩
  · rw [if_neg c1] at hQ
    have hb := (T2.2.2 s (by omega)).1
    refine at8 T2 (by omega) ⟨fun _ => ?_, fun z => absurd z ?_⟩
    · refine ltr8 hb (fun c2 => tt1 ?_) (fun c2 => tt0 ?_)
      · rw [if_pos c2] at hQ
        have g1 : s ≤ eN B l ltr s := rn_ge _ _
        have g2 : eN B l ltr s ≤ l := rn_le _ _ h2
        refine ⟨l - s + 1, nm8 (l - s) s s2 (by omega) T2 x3 (fun s4 u1 u2 => ?_)⟩
        rw [u1, show s4 4 2 = nI s by rw [u2 _ _ (by omega)]; exact x2, pk_sub g1]
        have e6 : (6 : Int32) < nI (eN B l ltr s - s) ↔ 6 < eN B l ltr s - s := nI_ltI (a := 6) (by decide) (by omega)
        rw [e6]
        refine ⟨fun c s5 e5 => ?_, fun c s5 e5 => ?_⟩
        · refine hQ s5 ⟨?_, by rw [e5, up_ne _ _ (by omega), u2 _ _ (by omega)]; exact x2, by rw [e5, up_ne _ _ (by omega)]; exact u1, fun z => ?_⟩ (fun a b hab => by rw [e5, up_ne _ _ (by omega), u2 _ _ (by omega), a2 a b (by omega)])
          · rw [e5, up_self, if_neg (by omega)]; rfl
          · simp only at z
            rw [if_neg (by omega)] at z
            omega
        · refine hQ s5 ⟨?_, by rw [e5, up_ne _ _ (by omega), u2 _ _ (by omega)]; exact x2, by rw [e5, up_ne _ _ (by omega)]; exact u1, fun z => ?_⟩ (fun a b hab => by rw [e5, up_ne _ _ (by omega), u2 _ _ (by omega), a2 a b (by omega)])
          · rw [e5, up_self, if_pos (by omega)]; rfl
          · simp only at z
            rw [if_pos (by omega)] at z
            omega
      · rw [if_neg (by rw [c2]; decide)] at hQ
        refine fig8 hb (fun c3 => tt1 ?_) (fun c3 => tt0 ?_)
        · rw [if_pos c3] at hQ
          have g1 : s ≤ eN B l fig s := rn_ge _ _
          have g2 : eN B l fig s ≤ l := rn_le _ _ h2
          intro s3 e3
          refine ⟨l - s + 1, nu8 (s := s) (l - s) s s3 (by omega) (Nat.le_refl _) (T2.fr (fun a b hab => by rw [e3, up_ne _ _ (by omega)])) (by rw [e3, up_ne _ _ (by omega)]; exact x2) (by rw [e3, up_ne _ _ (by omega)]; exact x3) (by rw [e3, up_self, Nat.sub_self]; rfl) (fun s4 u1 u1b u2 => ?_)⟩
          rw [u1, show s4 4 2 = nI s by rw [u2 _ _ (by omega), e3, up_ne _ _ (by omega)]; exact x2, pk_sub g1]
          have e6 : (5 : Int32) < nI (eN B l fig s - s) ↔ 5 < eN B l fig s - s := nI_ltI (a := 5) (by decide) (by omega)
          rw [e6]
          refine ⟨fun c s5 e5 => ?_, fun c s5 e5 => ?_⟩
          · refine hQ s5 ⟨?_, by rw [e5, up_ne _ _ (by omega), u2 _ _ (by omega), e3, up_ne _ _ (by omega)]; exact x2, by rw [e5, up_ne _ _ (by omega)]; exact u1, fun z => ?_⟩ (fun a b hab => by rw [e5, up_ne _ _ (by omega), u2 _ _ (by omega), e3, up_ne _ _ (by omega), a2 a b (by omega)])
            · rw [e5, up_self, if_neg (by omega)]; rfl
            · simp only at z
              rw [if_neg (by omega)] at z
              omega
          · refine hQ s5 ⟨?_, by rw [e5, up_ne _ _ (by omega), u2 _ _ (by omega), e3, up_ne _ _ (by omega)]; exact x2, by rw [e5, up_ne _ _ (by omega)]; exact u1, fun z => ?_⟩ (fun a b hab => by rw [e5, up_ne _ _ (by omega), u2 _ _ (by omega), e3, up_ne _ _ (by omega), a2 a b (by omega)])
            · rw [e5, up_self, if_pos (by omega)]; rfl
            · rw [e5, up_ne _ _ (by omega), u1b]
              simp only
              rw [show min (eN B l fig s - s) 5 = eN B l fig s - s by omega]
        · rw [if_neg (by rw [c3]; decide)] at hQ
          intro s6 e6
          rw [x3, nI_1] at e6
          have e59 := lit (x := 59) (n := 59) (b := B s) rfl (by decide) hb
          rw [e59]
          refine ⟨fun c s7 e7 => ?_, fun c s7 e7 => ?_⟩
          · rw [if_neg c] at hQ
            exact hQ s7 ⟨by rw [e7, up_self]; rfl, by rw [e7, up_ne _ _ (by omega), e6, up_ne _ _ (by omega)]; exact x2, by rw [e7, up_ne _ _ (by omega), e6, up_self], fun z => absurd z (by simp)⟩ (fun a b hab => by rw [e7, up_ne _ _ (by omega), e6, up_ne _ _ (by omega), a2 a b (by omega)])
          · rw [if_pos c] at hQ
            exact hQ s7 ⟨by rw [e7, up_self]; rfl, by rw [e7, up_ne _ _ (by omega), e6, up_ne _ _ (by omega)]; exact x2, by rw [e7, up_ne _ _ (by omega), e6, up_self], fun z => absurd z (by simp)⟩ (fun a b hab => by rw [e7, up_ne _ _ (by omega), e6, up_ne _ _ (by omega), a2 a b (by omega)])
    · intro z
      have := congrArg Int32.toInt z
      rw [nI_toInt (by omega), show (-1 : Int32).toInt = -1 from rfl] at this
      omega
