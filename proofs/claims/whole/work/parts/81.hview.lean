/-! hour: the class's view of the list -/
abbrev t8 (a b : Nat) : Prop := (a = 0 ∧ (b = 1 ∨ b = 2)) ∨ (a = 2 ∧ (b = 1 ∨ b = 4)) ∨ a = 3 ∨ (23 ≤ a ∧ a < 33 ∧ 2 ≤ b ∧ b ≤ 4) ∨ (33 ≤ a ∧ a < 63)
def V8 (σ0 : ST) (L : List Tk) (st we : Nat → Int32) (lo br ba : Int32) (σ : ST) : Prop :=
  L.length ≤ 30 ∧ σ 2 1 = nI L.length ∧ (∃ pi : Nat → Nat, (∀ i, i < 30 → pi i < 30 ∧ σ 3 i = nI (pi i)) ∧ (∀ i j, i < 30 → j < 30 → pi i = pi j → i = j) ∧ ∀ i T, L[i]? = some T → ∀ j, j < 7 → σ (33 + pi i) j = T j) ∧
  (∀ s, s < 10 → σ (23 + s) 2 = st s ∧ σ (23 + s) 3 = sm (hc s) L ∧ σ (23 + s) 4 = we s) ∧ σ 0 1 = lo ∧ σ 0 2 = br ∧ σ 2 4 = ba ∧ ∀ a b, ¬ t8 a b → σ a b = σ0 a b
theorem V8.sc {σ0 : ST} {L : List Tk} {st we st' we' : Nat → Int32} {lo br ba lo' br' ba' : Int32} {σ τ : ST} (h : V8 σ0 L st we lo br ba σ) (h1 : ∀ s, s < 10 → τ (23 + s) 2 = st' s ∧ τ (23 + s) 3 = sm (hc s) L ∧ τ (23 + s) 4 = we' s) (h2 : τ 0 1 = lo') (h3 : τ 0 2 = br') (h4 : τ 2 4 = ba') (ag : ∀ a b, ¬ (23 ≤ a ∧ a < 33 ∧ 2 ≤ b ∧ b ≤ 4) → ¬ (a = 0 ∧ (b = 1 ∨ b = 2)) → ¬ (a = 2 ∧ b = 4) → τ a b = σ a b) : V8 σ0 L st' we' lo' br' ba' τ := by
  obtain ⟨a1, a2, ⟨pi, p1, p2, p3⟩, a4, a5, a6, a7, a8⟩ := h
  refine ⟨a1, by rw [ag 2 1 (by omega) (by omega) (by omega)]; exact a2, ⟨pi, fun i hi => ⟨(p1 i hi).1, by rw [ag 3 i (by omega) (by omega) (by omega)]; exact (p1 i hi).2⟩, p2, fun i T hT j hj => ?_⟩, h1, h2, h3, h4, fun a b hab => ?_⟩
  · rw [ag (33 + pi i) j (by omega) (by omega) (by omega)]; exact p3 i T hT j hj
  · rw [ag a b (by omega) (by omega) (by omega)]; exact a8 a b hab
theorem get_mid {A : List Tk} {T : Tk} {B : List Tk} : (A ++ T :: B)[A.length]? = some T := by simp
theorem get_ne {A : List Tk} {T U : Tk} {B : List Tk} {i : Nat} (h : i ≠ A.length) : (A ++ T :: B)[i]? = (A ++ U :: B)[i]? := by
  rw [List.getElem?_append, List.getElem?_append]
  by_cases h1 : i < A.length
  · rw [if_pos h1, if_pos h1]
  · rw [if_neg h1, if_neg h1]
    obtain ⟨k, hk⟩ : ∃ k, i - A.length = k + 1 := ⟨i - A.length - 1, by omega⟩
    rw [hk]
    rfl
theorem V8.row {σ0 : ST} {A : List Tk} {T : Tk} {B : List Tk} {st we : Nat → Int32} {lo br ba : Int32} {σ : ST} (h : V8 σ0 (A ++ T :: B) st we lo br ba σ) : A.length < 30 ∧ ∃ p, p < 30 ∧ σ 3 A.length = nI p ∧ (∀ j, j < 7 → σ (33 + p) j = T j) ∧
    ∀ (U : Tk) (st' we' : Nat → Int32) (lo' br' ba' : Int32) (τ : ST), (∀ j, j < 7 → τ (33 + p) j = U j) → (∀ s, s < 10 → τ (23 + s) 2 = st' s ∧ τ (23 + s) 3 = sm (hc s) (A ++ U :: B) ∧ τ (23 + s) 4 = we' s) → τ 0 1 = lo' → τ 0 2 = br' → τ 2 4 = ba' → (∀ a b, a ≠ 33 + p → ¬ (23 ≤ a ∧ a < 33 ∧ 2 ≤ b ∧ b ≤ 4) → ¬ (a = 0 ∧ (b = 1 ∨ b = 2)) → ¬ (a = 2 ∧ b = 4) → τ a b = σ a b) → V8 σ0 (A ++ U :: B) st' we' lo' br' ba' τ := by
  obtain ⟨a1, a2, ⟨pi, p1, p2, p3⟩, a4, a5, a6, a7, a8⟩ := h
  have hl : A.length < 30 := by simp at a1; omega
  have hp := p1 A.length hl
  refine ⟨hl, pi A.length, hp.1, hp.2, p3 A.length T get_mid, fun U st' we' lo' br' ba' τ hU h1 h2 h3 h4 ag => ?_⟩
  refine ⟨by simpa using a1, by rw [ag 2 1 (by omega) (by omega) (by omega) (by omega), a2]; simp, ⟨pi, fun i hi => ⟨(p1 i hi).1, by rw [ag 3 i (by omega) (by omega) (by omega) (by omega)]; exact (p1 i hi).2⟩, p2, fun i X hX j hj => ?_⟩, h1, h2, h3, h4, fun a b hab => ?_⟩
  · by_cases hi : i = A.length
    · subst hi
      rw [get_mid] at hX
      injection hX with hX
      rw [← hX]
      exact hU j hj
    · have hX2 := hX
      rw [get_ne (U := T) hi] at hX
      have hi30 : i < 30 := by
        have := (List.getElem?_eq_some_iff.mp hX).1
        omega
      have hne : pi i ≠ pi A.length := fun e => hi (p2 _ _ hi30 hl e)
      rw [ag (33 + pi i) j (by omega) (by omega) (by omega) (by omega)]
      exact p3 i X hX j hj
  · have := hp.1
    rw [ag a b (by omega) (by omega) (by omega) (by omega)]; exact a8 a b hab
theorem hc_kill (s : Nat) (T : Tk) : hc s (sT T 3 0) = 0 := by
  unfold hc
  have : (sT T 3 0) 3 = 0 := rfl
  rw [this]
  exact ite_self _
/-- a ticket ends in the class -/
theorem e8 {σ0 : ST} {A : List Tk} {T : Tk} {B : List Tk} {st we : Nat → Int32} {lo br ba : Int32} {σ : ST} (h : V8 σ0 (A ++ T :: B) st we lo br ba σ) {q : Nat} (hq : q < 10) (hT : T 1 = nI q) {k1 : Nat} (hk : k1 = 33 + (σ 3 A.length).toNatClampNeg) {Q : ST → Prop} (hQ : ∀ τ, V8 σ0 (A ++ sT T 3 0 :: B) st we lo br ba τ → Q τ) : w_X8_endTicket σ k1 Q := by
  obtain ⟨hl, p, hp, e3, hr, nx⟩ := h.row
  rw [e3, nI_clamp (show p < 2 ^ 31 by omega)] at hk
  subst hk
  unfold w_X8_endTicket
  rw [hr 1 (by omega), hr 3 (by omega), hT, nI_clamp (show q < 2 ^ 31 by omega)]
  refine ⟨vp_in_nI hq (by decide), fun k2 ek2 s1 e1 s2 e2 => hQ _ ?_⟩
  subst ek2
  have a4 := h.2.2.2.1
  obtain ⟨a5, a6, a7, a8⟩ := h.2.2.2.2
  have ag : ∀ a b, ¬ (a = 23 + q ∧ b = 3) → ¬ (a = 33 + p ∧ b = 3) → s2 a b = σ a b := fun a b z1 z2 => by
    rw [e2, up_ne _ _ z2, e1, up_ne _ _ z1]
  refine nx _ st we lo br ba s2 (fun j hj => ?_) (fun s hs => ?_) (by rw [ag 0 1 (by omega) (by omega)]; exact a5) (by rw [ag 0 2 (by omega) (by omega)]; exact a6) (by rw [ag 2 4 (by omega) (by omega)]; exact a7) (fun a b z1 z2 z3 z4 => ag a b (by omega) (by omega))
  · by_cases ej : j = 3
    · subst ej; rw [e2, up_self]; rfl
    · rw [ag _ _ (by omega) (by omega), hr j hj]; exact (if_neg ej).symm
  · obtain ⟨b1, b2, b3⟩ := a4 s hs
    refine ⟨by rw [ag _ _ (by omega) (by omega)]; exact b1, ?_, by rw [ag _ _ (by omega) (by omega)]; exact b3⟩
    rw [sm_mid] at b2 ⊢
    rw [hc_kill, Int32.add_zero]
    by_cases es : s = q
    · subst es
      rw [e2, up_ne _ _ (by omega), e1, up_self, b2]
      unfold hc
      rw [if_pos hT, add_sub_r]
    · rw [ag _ _ (by omega) (by omega), b2]
      unfold hc
      rw [if_neg (by rw [hT, nI_eq (by omega) (by omega)]; omega), Int32.add_zero]
def dr (ht : Nat → Int32) (v : Int32) (q : Nat) : Bool := decide (¬ v < ht q)
def tF (ht : Nat → Int32) (v : Int32) (T : Tk) : Tk := if dr ht v (N (T 1)) then sT T 3 0 else T
theorem at3 {σ0 : ST} {A : List Tk} {T : Tk} {B : List Tk} {st we : Nat → Int32} {lo br ba : Int32} {σ : ST} (h : V8 σ0 (A ++ T :: B) st we lo br ba σ) : vp_in (nI A.length) 30 ∧ (σ 3 (nI A.length).toNatClampNeg).toNatClampNeg < 30 ∧ ¬ σ 2 1 ≤ nI A.length ∧ (nI A.length).toNatClampNeg = A.length := by
  obtain ⟨hl, p, hp, e3, hr, nx⟩ := h.row
  have hc := nI_clamp (show A.length < 2 ^ 31 by omega)
  have a2 := h.2.1
  refine ⟨vp_in_nI hl (by decide), by rw [hc, e3, nI_clamp (by omega)]; exact hp, ?_, hc⟩
  rw [a2]
  exact nI_ge (by simp) (by have := h.1; omega)
theorem tide2 {σ0 : ST} {ht : Nat → Int32} {v : Int32} (hht : ∀ q, q < 10 → σ0 (23 + q) 0 = ht q) {st we : Nat → Int32} {lo br ba : Int32} {K : ST → Prop} {Q : ST → Prop} : ∀ (B A : List Tk) (σ : ST), (∀ T, T ∈ B → ∃ q, q < 10 ∧ T 1 = nI q) → V8 σ0 (A ++ B) st we lo br ba σ → (∀ τ, V8 σ0 (A ++ B.map (tF ht v)) st we lo br ba τ → K τ) → w_X8_takeByTide_L2 v K Q (B.length + 1) σ (nI A.length) := by
  intro B
  induction B with
  | nil =>
    intro A σ _ h hK
    refine ⟨fun _ => hK σ h, fun z => absurd ?_ z⟩
    rw [h.2.1, List.append_nil]; exact Int32.le_refl _
  | cons T B ih =>
    intro A σ hp h hK
    obtain ⟨b1, b2, b3, b4⟩ := at3 h
    obtain ⟨q, hq, hT⟩ := hp T List.mem_cons_self
    obtain ⟨hl, p, hpp, e3, hr, nx⟩ := id h.row
    have hNq : N (T 1) = q := by rw [hT]; exact nI_clamp (by omega)
    refine ⟨fun z => absurd z b3, fun _ => ⟨b1, b2, fun k1 ek1 => ?_⟩⟩
    rw [b4] at ek1
    have ek := ek1
    rw [e3, nI_clamp (show p < 2 ^ 31 by omega)] at ek
    rw [show σ k1 1 = T 1 by rw [ek]; exact hr 1 (by omega), hT, nI_clamp (show q < 2 ^ 31 by omega)]
    refine ⟨vp_in_nI hq (by decide), fun k2 ek2 => ?_⟩
    have hh : σ k2 0 = ht q := by rw [ek2, h.2.2.2.2.2.2.2 _ _ (by omega)]; exact hht q hq
    rw [hh]
    refine ⟨fun c x1 ex1 => ?_, fun c => e8 h hq hT ek1 (fun τ hτ x1 ex1 => ?_)⟩
    · rw [ex1, nI_1]
      have h2 : V8 σ0 ((A ++ [T]) ++ B) st we lo br ba σ := by rw [List.append_assoc]; exact h
      have := ih (A ++ [T]) σ (fun U hU => hp U (List.mem_cons_of_mem _ hU)) h2 (fun τ hτ => hK τ (by
        rw [List.append_assoc] at hτ
        have e : tF ht v T = T := by unfold tF; rw [hNq]; unfold dr; rw [if_neg (by simpa using c)]
        rw [List.map_cons, e]; exact hτ))
      rw [List.length_append] at this
      exact this
    · rw [ex1, nI_1]
      have h2 : V8 σ0 ((A ++ [sT T 3 0]) ++ B) st we lo br ba τ := by rw [List.append_assoc]; exact hτ
      have := ih (A ++ [sT T 3 0]) τ (fun U hU => hp U (List.mem_cons_of_mem _ hU)) h2 (fun τ hτ => hK τ (by
        rw [List.append_assoc] at hτ
        have e : tF ht v T = sT T 3 0 := by unfold tF; rw [hNq]; unfold dr; rw [if_pos (by simpa using c)]
        rw [List.map_cons, e]; exact hτ))
      rw [List.length_append] at this
      exact this
def tst (ht : Nat → Int32) (v : Int32) (st : Nat → Int32) (i : Nat) : Nat → Int32 := fun s => if s < i ∧ dr ht v s = true then 0 else st s
def tlo (ht : Nat → Int32) (v : Int32) (st : Nat → Int32) (lo : Int32) : Nat → Int32
  | 0 => lo
  | i + 1 => if dr ht v i then tlo ht v st lo i + st i else tlo ht v st lo i
theorem tst_0 (ht : Nat → Int32) (v : Int32) (st : Nat → Int32) : tst ht v st 0 = st := by
  funext s
  exact if_neg (by omega)
theorem tst_n {ht : Nat → Int32} {v : Int32} {st : Nat → Int32} {i : Nat} (h : dr ht v i = false) : tst ht v st (i + 1) = tst ht v st i := by
  funext s
  unfold tst
  by_cases e : s = i
  · subst e; rw [h]; simp
  · simp only [show s < i + 1 ↔ s < i by omega]
theorem tst_y {ht : Nat → Int32} {v : Int32} {st : Nat → Int32} {i : Nat} (h : dr ht v i = true) : tst ht v st (i + 1) = upd (tst ht v st i) i 0 ∧ tst ht v st i i = st i := by
  refine ⟨?_, if_neg (by omega)⟩
  funext s
  unfold upd tst
  by_cases e : s = i
  · subst e; rw [if_pos ⟨by omega, h⟩]; simp
  · simp only [show s < i + 1 ↔ s < i by omega]; simp [e]
theorem upd_s (f : Nat → Int32) (k : Nat) (v : Int32) : upd f k v k = v := pk_us
theorem upd_n {f : Nat → Int32} {k j : Nat} (v : Int32) (h : j ≠ k) : upd f k v j = f j := pk_un h
theorem tide52 {σ0 : ST} {ht : Nat → Int32} {v : Int32} {n : Nat} (hn : n ≤ 10) (h07 : σ0 0 7 = nI n) (hht : ∀ q, q < 10 → σ0 (23 + q) 0 = ht q) {L : List Tk} {st we : Nat → Int32} {lo br ba : Int32} {K : ST → Prop} {Q : ST → Prop} (hK : ∀ τ, V8 σ0 L (tst ht v st n) we (tlo ht v st lo n) br ba τ → K τ) : ∀ (d i : Nat) (σ : ST), i + d = n → V8 σ0 L (tst ht v st i) we (tlo ht v st lo i) br ba σ → w_X8_takeByTide_L52 v K Q (d + 1) σ (nI i) := by
  intro d
  induction d with
  | zero =>
    intro i σ hi h
    obtain rfl : i = n := by omega
    refine ⟨fun _ => hK σ h, fun z => absurd ?_ z⟩
    rw [h.2.2.2.2.2.2.2 0 7 (by omega), h07]; exact Int32.le_refl _
  | succ d ih =>
    intro i σ hi h
    have hc := nI_clamp (show i < 2 ^ 31 by omega)
    refine ⟨fun z => absurd z (by rw [h.2.2.2.2.2.2.2 0 7 (by omega), h07]; exact nI_ge (by omega) (by omega)), fun _ => ⟨vp_in_nI (by omega) (by decide), fun k ek => ?_⟩⟩
    rw [hc] at ek
    have hh : σ k 0 = ht i := by rw [ek, h.2.2.2.2.2.2.2 _ _ (by omega)]; exact hht i (by omega)
    rw [hh]
    refine ⟨fun c x1 ex1 => ?_, fun c s3 e3 s4 e4 x1 ex1 => ?_⟩
    · rw [ex1, nI_1]
      have hd : dr ht v i = false := by unfold dr; simpa using c
      refine ih (i + 1) σ (by omega) ?_
      rw [tst_n hd]
      unfold tlo
      rw [hd]
      exact h
    · rw [ex1, nI_1]
      have hd : dr ht v i = true := by unfold dr; simpa using c
      refine ih (i + 1) s4 (by omega) ?_
      obtain ⟨y1, y2⟩ := tst_y (st := st) hd
      rw [y1]
      unfold tlo
      rw [hd]
      obtain ⟨a5, a6, a7, a8⟩ := h.2.2.2.2
      have a4 := h.2.2.2.1
      have ag : ∀ a b, ¬ (a = 0 ∧ b = 1) → ¬ (a = 23 + i ∧ b = 2) → s4 a b = σ a b := fun a b z1 z2 => by rw [e4, up_ne _ _ (by omega), e3, up_ne _ _ z1]
      refine h.sc (fun s hs => ?_) ?_ (by rw [ag 0 2 (by omega) (by omega)]; exact a6) (by rw [ag 2 4 (by omega) (by omega)]; exact a7) (fun a b z1 z2 z3 => ag a b (by omega) (by omega))
      · obtain ⟨b1, b2, b3⟩ := a4 s hs
        refine ⟨?_, by rw [ag _ _ (by omega) (by omega)]; exact b2, by rw [ag _ _ (by omega) (by omega)]; exact b3⟩
        by_cases es : s = i
        · subst es; rw [upd_s, e4, ek, up_self]
        · rw [upd_n _ es, ag _ _ (by omega) (by omega)]; exact b1
      · rw [e4, up_ne _ _ (by omega), e3, up_self, a5, if_pos rfl, ek, (a4 i (by omega)).1, y2]
theorem tide8 {σ0 : ST} {ht : Nat → Int32} {v : Int32} {n : Nat} (hn : n ≤ 10) (h07 : σ0 0 7 = nI n) (hht : ∀ q, q < 10 → σ0 (23 + q) 0 = ht q) {L : List Tk} {st we : Nat → Int32} {lo br ba : Int32} {σ : ST} {Q : ST → Prop} (hp : c8 n L) (h : V8 σ0 L st we lo br ba σ) (hQ : ∀ τ, V8 σ0 (L.map (tF ht v)) (tst ht v st n) we (tlo ht v st lo n) br ba τ → Q τ) : w_X8_takeByTide σ v Q := by
  refine ⟨L.length + 1, tide2 hht L [] σ (fun T hT => ?_) h (fun τ hτ => ⟨n + 1, tide52 hn h07 hht hQ n 0 τ (by omega) ?_⟩)⟩
  · obtain ⟨p, hp, e⟩ := (hp T hT).1
    exact ⟨p, by omega, e⟩
  · rw [tst_0]; exact hτ
def pay (T : Tk) : Int32 := T 5 * T 3 * T 4
theorem wind8 {σ0 : ST} {st we : Nat → Int32} {lo br : Int32} {K : ST → Prop} {Q : ST → Prop} : ∀ (B A : List Tk) (σ : ST) (ba : Int32), (∀ T, T ∈ B → ∃ q, q < 10 ∧ T 1 = nI q) → V8 σ0 (A ++ B) st we lo br ba σ → (∀ τ, V8 σ0 (A ++ B.map (fun T => sT T 3 0)) st we lo br (ba + sm pay B) τ → K τ) → w_X8_endAllByWind_L2 K Q (B.length + 1) σ (nI A.length) := by
  intro B
  induction B with
  | nil =>
    intro A σ ba _ h hK
    refine ⟨fun _ => hK σ (by show V8 _ _ _ _ _ _ (ba + 0) _; rw [Int32.add_zero]; exact h), fun z => absurd ?_ z⟩
    rw [h.2.1, List.append_nil]; exact Int32.le_refl _
  | cons T B ih =>
    intro A σ ba hp h hK
    obtain ⟨b1, b2, b3, b4⟩ := at3 h
    obtain ⟨q, hq, hT⟩ := hp T List.mem_cons_self
    obtain ⟨hl, p, hpp, e3, hr, nx⟩ := id h.row
    refine ⟨fun z => absurd z b3, fun _ => ⟨b1, b2, fun k1 ek1 s1 e1 => ?_⟩⟩
    rw [b4] at ek1
    have ek := ek1
    rw [e3, nI_clamp (show p < 2 ^ 31 by omega)] at ek
    have h1 : V8 σ0 (A ++ T :: B) st we lo br (ba + pay T) s1 := by
      obtain ⟨a5, a6, a7, a8⟩ := h.2.2.2.2
      refine h.sc (fun s hs => ?_) (by rw [e1, up_ne _ _ (by omega)]; exact a5) (by rw [e1, up_ne _ _ (by omega)]; exact a6) ?_ (fun a b z1 z2 z3 => by rw [e1, up_ne _ _ (by omega)])
      · rw [e1, up_ne _ _ (by omega), up_ne _ _ (by omega), up_ne _ _ (by omega)]; exact h.2.2.2.1 s hs
      · rw [e1, up_self, a7, ek, hr 5 (by omega), hr 3 (by omega), hr 4 (by omega)]; rfl
    refine e8 h1 hq hT (by rw [e1, up_ne _ _ (by omega)]; exact ek1) (fun τ hτ x1 ex1 => ?_)
    rw [ex1, nI_1]
    have h2 : V8 σ0 ((A ++ [sT T 3 0]) ++ B) st we lo br (ba + pay T) τ := by rw [List.append_assoc]; exact hτ
    have := ih (A ++ [sT T 3 0]) τ _ (fun U hU => hp U (List.mem_cons_of_mem _ hU)) h2 (fun τ hτ => hK τ (by
      rw [List.append_assoc, Int32.add_assoc] at hτ
      exact hτ))
    rw [List.length_append] at this
    exact this
def payr (v : Int32) (T : Tk) : Int32 := T 5 * T 3 * v / 100
theorem rain8 {σ0 : ST} {v : Int32} {st we : Nat → Int32} {lo br : Int32} {K : ST → Prop} {Q : ST → Prop} : ∀ (B A : List Tk) (σ : ST) (ba : Int32), V8 σ0 (A ++ B) st we lo br ba σ → (∀ τ, V8 σ0 (A ++ B) st we lo br (ba + sm (payr v) B) τ → K τ) → w_X8_payBackRain_L11 v K Q (B.length + 1) σ (nI A.length) := by
  intro B
  induction B with
  | nil =>
    intro A σ ba h hK
    refine ⟨fun _ => hK σ (by show V8 _ _ _ _ _ _ (ba + 0) _; rw [Int32.add_zero]; exact h), fun z => absurd ?_ z⟩
    rw [h.2.1, List.append_nil]; exact Int32.le_refl _
  | cons T B ih =>
    intro A σ ba h hK
    obtain ⟨b1, b2, b3, b4⟩ := at3 h
    obtain ⟨hl, p, hpp, e3, hr, nx⟩ := id h.row
    refine ⟨fun z => absurd z b3, fun _ => ⟨b1, b2, fun k1 ek1 s1 e1 x1 ex1 => ?_⟩⟩
    rw [b4, e3, nI_clamp (show p < 2 ^ 31 by omega)] at ek1
    rw [ex1, nI_1]
    have h1 : V8 σ0 ((A ++ [T]) ++ B) st we lo br (ba + payr v T) s1 := by
      rw [List.append_assoc]
      obtain ⟨a5, a6, a7, a8⟩ := h.2.2.2.2
      refine h.sc (fun s hs => ?_) (by rw [e1, up_ne _ _ (by omega)]; exact a5) (by rw [e1, up_ne _ _ (by omega)]; exact a6) ?_ (fun a b z1 z2 z3 => by rw [e1, up_ne _ _ (by omega)])
      · rw [e1, up_ne _ _ (by omega), up_ne _ _ (by omega), up_ne _ _ (by omega)]; exact h.2.2.2.1 s hs
      · rw [e1, up_self, a7, ek1, hr 5 (by omega), hr 3 (by omega)]; rfl
    have := ih (A ++ [T]) s1 _ h1 (fun τ hτ => hK τ (by
      rw [List.append_assoc, Int32.add_assoc] at hτ
      exact hτ))
    rw [List.length_append] at this
    exact this
/-- the part of the rain: the class's way -/
def cp (fr pt : Nat → Int32) (v : Int32) : Nat → Nat → Int32
  | 0, _ => 0
  | d + 1, i => if v < fr i then cp fr pt v d (i + 1) else pt i
theorem part8 {σ : ST} {fr pt : Nat → Int32} {v : Int32} {k r : Nat} (hr : r ≤ 5) (h2 : σ k 2 = nI r) (hf : ∀ j, j < r → σ (4 * k - 18 + 0 - 1) j = fr j ∧ σ (4 * k - 18 + 1 - 1) j = pt j) {Q : Int32 → ST → Prop} (hQ : Q (cp fr pt v r 0) σ) : w_X3_partOfRain σ k v Q := by
  have go : ∀ (d i : Nat), i + d = r → Q (cp fr pt v d i) σ → w_X3_partOfRain_L2 k v (fun s1 => Q 0 s1) Q (d + 1) σ (nI i) := by
    intro d
    induction d with
    | zero =>
      intro i hi hq
      obtain rfl : i = r := by omega
      exact ⟨fun _ => hq, fun z => absurd (by rw [h2]; exact Int32.le_refl _) z⟩
    | succ d ih =>
      intro i hi hq
      have hv : vp_in (nI i) 5 := vp_in_nI (by omega) (by decide)
      refine ⟨fun z => absurd z (by rw [h2]; exact nI_ge (by omega) (by omega)), fun _ => ⟨hv, ?_⟩⟩
      rw [nI_clamp (show i < 2 ^ 31 by omega), (hf i (by omega)).1, (hf i (by omega)).2]
      unfold cp at hq
      refine ⟨fun c x1 ex1 => ?_, fun c => ⟨hv, by rw [if_neg c] at hq; exact hq⟩⟩
      rw [if_pos c] at hq
      rw [ex1, nI_1]
      exact ih (i + 1) (by omega) hq
  exact ⟨r + 1, go r 0 (by omega) hQ⟩
