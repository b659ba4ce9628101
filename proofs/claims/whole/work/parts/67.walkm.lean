/-! walk: the reference's loop over all orders -/
def fS (σ : ST) (S : Nat → Nat) (j p : Nat) : Nat := N (σ 69 (S j)) - p * N (σ 70 (S j))
theorem drop_lg : ∀ (q : List Nat) (p : Nat), p < q.length → q.drop p = lg q p :: q.drop (p + 1)
  | [], _, h => absurd h (by simp)
  | a :: r, 0, _ => rfl
  | a :: r, p + 1, h => by
    show r.drop p = lg r p :: r.drop (p + 1)
    exact drop_lg r p (by simpa using h)
theorem l90 {σ : ST} {S : Nat → Nat} {n : Nat} {q : List Nat} {s : ST} {v2 v4 : Int32} {K : ST → Int32 → Prop} {Q : Int32 → ST → Prop} (hn : n ≤ 7) (hm : mNum σ) (hS : incr S n) (hq : okp n q) (h : eq87 S n s q) (e69 : ∀ b, s 69 b = σ 69 b) (e70 : ∀ b, s 70 b = σ 70 b) : ∀ (d p acc : Nat), p + d = n → acc + 500 * d ≤ 5000 → K s (nI (acc + oval (fS σ S) p (q.drop p))) → w_X9_walk_L90 v2 (nI n) v4 K Q (d + 1) s (nI acc) (nI p) := by
  intro d
  induction d with
  | zero =>
    intro p acc hp ha hK
    obtain rfl : p = n := by omega
    rw [List.drop_eq_nil_of_le (by rw [hq.1]; exact Nat.le_refl _)] at hK
    exact ⟨fun _ => hK, fun w => absurd (Int32.le_refl _) w⟩
  | succ d ih =>
    intro p acc hp ha hK
    have hp7 : vp_in (nI p) 7 := vp_in_nI (by omega) (by decide)
    have hl := hq.2 p (by omega)
    have hs10 := hS.2 _ hl
    refine ⟨fun w => absurd w (nI_ge (a := p) (b := n) (by omega) (by omega)), fun _ => ⟨hp7, ?_⟩⟩
    rw [nI_clamp (show p < 2 ^ 31 by omega), h p (by omega), nI_clamp (show S (lg q p) < 2 ^ 31 by omega), e69, e70]
    have hv10 : vp_in (nI (S (lg q p))) 10 := vp_in_nI hs10 (by decide)
    rw [drop_lg q p (by rw [hq.1]; omega)] at hK
    unfold oval at hK
    obtain ⟨z1, z2, z3, z4, z5, z6, z7, z8⟩ := hm _ hs10
    refine ⟨hv10, hp7, hv10, fun x7 e7 => ?_⟩
    have hF : fS σ S (lg q p) p ≤ 500 := by unfold fS; omega
    have hmul : p * N (σ 70 (S (lg q p))) ≤ 7 * 500 := Nat.mul_le_mul (by omega) z8
    rw [z5, z7, pk_mul] at e7
    unfold fS at hK hF
    generalize N (σ 69 (S (lg q p))) = a at *
    generalize hmm : p * N (σ 70 (S (lg q p))) = b at *
    refine ⟨fun w x8 e8 x9 e9 => ?_, fun w x8 e8 x9 e9 => ?_⟩
    · rw [e7, Int32.le_iff_toInt_le, pk_sub_toInt (by omega) (by omega), k32_0] at w
      rw [e8, e9, nI_1, Int32.add_zero]
      refine ih (p + 1) acc (by omega) (by omega) ?_
      rw [show a - b = 0 by omega, Nat.zero_add] at hK
      exact hK
    · rw [e7, Int32.le_iff_toInt_le, pk_sub_toInt (by omega) (by omega), k32_0] at w
      rw [e8, e9, nI_1, e7, pk_sub (by omega), nI_add]
      refine ih (p + 1) (acc + (a - b)) (by omega) (by omega) ?_
      rw [← Nat.add_assoc] at hK
      exact hK
def eq88 (S : Nat → Nat) (n : Nat) (s : ST) (p : List Nat) : Prop := ∀ v, v < n → s 88 v = nI (S (lg p v))
theorem l162 {S : Nat → Nat} {n : Nat} {q : List Nat} {v2 v4 : Int32} {K : ST → Prop} {Q : Int32 → ST → Prop} (hn : n ≤ 7) : ∀ (d p : Nat) (s : ST), p + d = n → eq87 S n s q → (∀ v, v < p → s 88 v = nI (S (lg q v))) → (∀ τ, eq87 S n τ q → eq88 S n τ q → (∀ a b, a ≠ 88 → τ a b = s a b) → K τ) → w_X9_walk_L162 v2 (nI n) v4 K Q (d + 1) s (nI p) := by
  intro d
  induction d with
  | zero =>
    intro p s hp h h8 hK
    obtain rfl : p = n := by omega
    exact ⟨fun _ => hK s h h8 (fun _ _ _ => rfl), fun w => absurd (Int32.le_refl _) w⟩
  | succ d ih =>
    intro p s hp h h8 hK
    have hp7 : vp_in (nI p) 7 := vp_in_nI (by omega) (by decide)
    refine ⟨fun w => absurd w (nI_ge (a := p) (b := n) (by omega) (by omega)), fun _ => ⟨hp7, hp7, ?_⟩⟩
    rw [nI_clamp (show p < 2 ^ 31 by omega)]
    intro s6 e6 x ex
    rw [ex, nI_1]
    refine ih (p + 1) s6 (by omega) (fun v hv => by rw [e6, up_ne _ _ (by omega)]; exact h v hv) (fun v hv => ?_) (fun τ t1 t2 t3 => hK τ t1 t2 (fun a b hab => by rw [t3 a b hab, e6, up_ne _ _ (by omega)]))
    by_cases e : v = p
    · rw [e, e6, up_self]; exact h p (by omega)
    · rw [e6, up_ne _ _ (by omega)]; exact h8 v (by omega)
def bst (S : Nat → Nat) (n : Nat) (s : ST) (v : Int32) : Option (Nat × List Nat) → Prop
  | none => v = -1
  | some c => v = nI c.1 ∧ c.1 ≤ 5000 ∧ eq88 S n s c.2
theorem oval_le {F : Nat → Nat → Nat} : ∀ (q : List Nat) (p : Nat), (∀ j, j ∈ q → ∀ p, F j p ≤ 500) → oval F p q ≤ 500 * q.length
  | [], _, _ => Nat.le_refl _
  | j :: r, p, h => by
    have := oval_le r (p + 1) (fun i hi => h i (List.mem_cons_of_mem _ hi))
    have := h j (List.mem_cons_self ..) p
    unfold oval
    rw [List.length_cons]
    omega
theorem bst_fr {S : Nat → Nat} {n : Nat} {s τ : ST} {v : Int32} {b : Option (Nat × List Nat)} (h : bst S n s v b) (e : ∀ x y, x ≠ 87 → τ x y = s x y) : bst S n τ v b := by
  cases b with
  | none => exact h
  | some c => exact ⟨h.1, h.2.1, fun u hu => by rw [e 88 u (by omega)]; exact h.2.2 u hu⟩
theorem step79 {σ : ST} {S : Nat → Nat} {n fuel : Nat} {v2 : Int32} {K : ST → Int32 → Prop} {Q : Int32 → ST → Prop} (hn : n ≤ 7) (hn1 : 1 ≤ n) (hm : mNum σ) (hS : incr S n) {a : List Nat} {s : ST} {v4 : Int32} {b : Option (Nat × List Nat)} (hok : okp n a ∧ oval (fS σ S) 0 a ≤ 5000) (h87 : eq87 S n s a) (hb : bst S n s v4 b) (hfr : ∀ x y, x ≠ 87 → x ≠ 88 → s x y = σ x y)
    (h0 : nxt n a = none → ∀ s' v', bst S n s' v' (mxs b (oval (fS σ S) 0 a, a)) → (∀ x y, x ≠ 87 → x ≠ 88 → s' x y = σ x y) → w_X9_walk_L79 v2 (nI n) K Q fuel s' v' 0)
    (h1 : ∀ a', nxt n a = some a' → ∀ s' v', eq87 S n s' a' → bst S n s' v' (mxs b (oval (fS σ S) 0 a, a)) → (∀ x y, x ≠ 87 → x ≠ 88 → s' x y = σ x y) → w_X9_walk_L79 v2 (nI n) K Q fuel s' v' 1) : w_X9_walk_L79 v2 (nI n) K Q (fuel + 1) s v4 1 := by
  have go : ∀ s' v', eq87 S n s' a → bst S n s' v' (mxs b (oval (fS σ S) 0 a, a)) → (∀ x y, x ≠ 87 → x ≠ 88 → s' x y = σ x y) → w_X9_next s' (nI n) (fun r1 s5 => w_X9_walk_L79 v2 (nI n) K Q fuel s5 v' r1) := by
    intro s' v' g1 g2 g3
    refine m_next hn hn1 hS hok.1 g1 (fun e => h0 e s' v' g2 g3) (fun a' e τ t1 t2 => h1 a' e τ v' t1 (bst_fr g2 t2) (fun x y hx hy => by rw [t2 x y hx, g3 x y hx hy]))
  refine ⟨fun w => absurd w (by decide), fun _ => ⟨n + 1, l90 hn hm hS hok.1 h87 (fun b => hfr 69 b (by omega) (by omega)) (fun b => hfr 70 b (by omega) (by omega)) n 0 0 (by omega) (by omega) ?_⟩⟩
  rw [Nat.zero_add, List.drop_zero]
  have hyes : (mxs b (oval (fS σ S) 0 a, a)) = some (oval (fS σ S) 0 a, a) → ∃ n3 : Nat, w_X9_walk_L162 v2 (nI n) (nI (oval (fS σ S) 0 a)) (fun (s7 : ST) => w_X9_next s7 (nI n) (fun r2 s8 => w_X9_walk_L79 v2 (nI n) K Q fuel s8 (nI (oval (fS σ S) 0 a)) r2)) Q n3 s 0 := fun e =>
    ⟨n + 1, l162 hn n 0 s (by omega) h87 (fun v hv => absurd hv (by omega)) (fun τ t1 t2 t3 => go τ _ t1 (by rw [e]; exact ⟨rfl, hok.2, t2⟩) (fun x y hx hy => by rw [t3 x y hy, hfr x y hx hy]))⟩
  cases b with
  | none =>
    have hb' : v4 = -1 := hb
    refine ⟨fun w => absurd w ?_, fun _ => hyes rfl⟩
    rw [hb', Int32.le_iff_toInt_le, nI_toInt (by omega), show (-1 : Int32).toInt = -1 from rfl]
    omega
  | some c =>
    obtain ⟨b1, b2, b3⟩ := hb
    rw [b1, nI_le' (by omega) (by omega)]
    refine ⟨fun w => ?_, fun w => hyes (if_neg w)⟩
    refine go s _ h87 ?_ hfr
    rw [show mxs (some c) (oval (fS σ S) 0 a, a) = some c from if_pos w]
    exact ⟨rfl, b2, b3⟩
theorem l79 {σ : ST} {S : Nat → Nat} {n : Nat} {v2 : Int32} {K : ST → Int32 → Prop} {Q : Int32 → ST → Prop} (hn : n ≤ 7) (hn1 : 1 ≤ n) (hm : mNum σ) (hS : incr S n) : ∀ (r : List (List Nat)) (a : List Nat) (s : ST) (v4 : Int32) (b : Option (Nat × List Nat)), chn n (a :: r) = true → (∀ q, q ∈ a :: r → okp n q ∧ oval (fS σ S) 0 q ≤ 5000) → eq87 S n s a → bst S n s v4 b → (∀ x y, x ≠ 87 → x ≠ 88 → s x y = σ x y) →
    (∀ τ v, bst S n τ v (mx b ((a :: r).map (fun q => (oval (fS σ S) 0 q, q)))) → (∀ x y, x ≠ 87 → x ≠ 88 → τ x y = σ x y) → K τ v) → w_X9_walk_L79 v2 (nI n) K Q (r.length + 2) s v4 1 := by
  intro r
  induction r with
  | nil =>
    intro a s v4 b hc hok h87 hb hfr hK
    refine step79 hn hn1 hm hS (hok a (List.mem_cons_self ..)) h87 hb hfr (fun _ s' v' g1 g2 => ⟨fun _ => hK s' v' g1 g2, fun w => absurd rfl w⟩) (fun a' e => ?_)
    unfold chn at hc
    rw [e] at hc
    simp at hc
  | cons a' r ih =>
    intro a s v4 b hc hok h87 hb hfr hK
    unfold chn at hc
    rw [Bool.and_eq_true] at hc
    obtain ⟨hc1, hc2⟩ := hc
    refine step79 hn hn1 hm hS (hok a (List.mem_cons_self ..)) h87 hb hfr (fun e => ?_) (fun c e s' v' g1 g2 g3 => ?_)
    · rw [e] at hc1
      simp at hc1
    · rw [e] at hc1
      have ec : c = a' := eqL_eq hc1
      subst ec
      exact ih c s' v' _ hc2 (fun q hq => hok q (List.mem_cons_of_mem _ hq)) g1 g2 g3 (fun τ v t1 t2 => hK τ v t1 t2)
