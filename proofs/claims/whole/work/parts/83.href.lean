/-! hour: the reference's view of the list -/
def rc (j : Nat) : Nat := [71, 72, 77, 73, 74, 76, 75].getD j 0
theorem rc_b : ∀ j, j < 7 → 71 ≤ rc j ∧ rc j ≤ 77 := by decide
abbrev t9 (a b : Nat) : Prop := (a = 63 ∧ (b = 2 ∨ b = 3 ∨ b = 9 ∨ b = 18)) ∨ (66 ≤ a ∧ a ≤ 68) ∨ (71 ≤ a ∧ a ≤ 77)
def V9 (σ0 : ST) (L : List Tk) (st we : Nat → Int32) (lo br ba : Int32) (σ : ST) : Prop :=
  L.length ≤ 30 ∧ σ 63 18 = nI L.length ∧ (∀ i T, L[i]? = some T → ∀ j, j < 7 → σ (rc j) i = T j) ∧
  (∀ s, s < 10 → σ 66 s + σ 67 s = st s ∧ σ 67 s = sm (hc s) L ∧ σ 68 s = we s) ∧ σ 63 2 = lo ∧ σ 63 3 = br ∧ σ 63 9 = ba ∧ ∀ a b, ¬ t9 a b → σ a b = σ0 a b
theorem V9.sc {σ0 : ST} {L : List Tk} {st we st' we' : Nat → Int32} {lo br ba lo' br' ba' : Int32} {σ τ : ST} (h : V9 σ0 L st we lo br ba σ) (h1 : ∀ s, s < 10 → τ 66 s + τ 67 s = st' s ∧ τ 67 s = sm (hc s) L ∧ τ 68 s = we' s) (h2 : τ 63 2 = lo') (h3 : τ 63 3 = br') (h4 : τ 63 9 = ba') (ag : ∀ a b, ¬ (66 ≤ a ∧ a ≤ 68) → ¬ (a = 63 ∧ (b = 2 ∨ b = 3 ∨ b = 9)) → τ a b = σ a b) : V9 σ0 L st' we' lo' br' ba' τ := by
  obtain ⟨a1, a2, a3, a4, a5, a6, a7, a8⟩ := h
  refine ⟨a1, by rw [ag 63 18 (by omega) (by omega)]; exact a2, fun i T hT j hj => ?_, h1, h2, h3, h4, fun a b hab => ?_⟩
  · have := rc_b j hj
    rw [ag _ _ (by omega) (by omega)]; exact a3 i T hT j hj
  · rw [ag a b (by omega) (by omega)]; exact a8 a b hab
theorem V9.row {σ0 : ST} {A : List Tk} {T : Tk} {B : List Tk} {st we : Nat → Int32} {lo br ba : Int32} {σ : ST} (h : V9 σ0 (A ++ T :: B) st we lo br ba σ) : A.length < 30 ∧ (∀ j, j < 7 → σ (rc j) A.length = T j) ∧
    ∀ (U : Tk) (st' we' : Nat → Int32) (lo' br' ba' : Int32) (τ : ST), (∀ j, j < 7 → τ (rc j) A.length = U j) → (∀ s, s < 10 → τ 66 s + τ 67 s = st' s ∧ τ 67 s = sm (hc s) (A ++ U :: B) ∧ τ 68 s = we' s) → τ 63 2 = lo' → τ 63 3 = br' → τ 63 9 = ba' → (∀ a b, ¬ (71 ≤ a ∧ a ≤ 77 ∧ b = A.length) → ¬ (66 ≤ a ∧ a ≤ 68) → ¬ (a = 63 ∧ (b = 2 ∨ b = 3 ∨ b = 9)) → τ a b = σ a b) → V9 σ0 (A ++ U :: B) st' we' lo' br' ba' τ := by
  obtain ⟨a1, a2, a3, a4, a5, a6, a7, a8⟩ := h
  have hl : A.length < 30 := by simp at a1; omega
  refine ⟨hl, a3 A.length T get_mid, fun U st' we' lo' br' ba' τ hU h1 h2 h3 h4 ag => ?_⟩
  refine ⟨by simpa using a1, by rw [ag 63 18 (by omega) (by omega) (by omega), a2]; simp, fun i X hX j hj => ?_, h1, h2, h3, h4, fun a b hab => ?_⟩
  · have := rc_b j hj
    by_cases hi : i = A.length
    · subst hi
      rw [get_mid] at hX
      injection hX with hX
      rw [← hX]
      exact hU j hj
    · rw [get_ne (U := T) hi] at hX
      rw [ag _ _ (by omega) (by omega) (by omega)]
      exact a3 i X hX j hj
  · rw [ag a b (by omega) (by omega) (by omega)]; exact a8 a b hab
theorem shl9 {m : Nat} (hm : m ≤ 29) {K : ST → Prop} {Q : ST → Prop} : ∀ (d i : Nat) (σ : ST), i + d = m → σ 63 18 = nI m → (∀ τ, (∀ a b, 71 ≤ a → a ≤ 77 → i ≤ b → b < m → τ a b = σ a (b + 1)) → (∀ a b, ¬ (71 ≤ a ∧ a ≤ 77 ∧ i ≤ b ∧ b < m) → τ a b = σ a b) → K τ) → w_X9_end_L52 K Q (d + 1) σ (nI i) := by
  intro d
  induction d with
  | zero =>
    intro i σ hi h18 hK
    obtain rfl : i = m := by omega
    exact ⟨fun _ => hK σ (fun a b _ _ _ _ => by omega) (fun a b _ => rfl), fun z => absurd (by rw [h18]; exact Int32.le_refl _) z⟩
  | succ d ih =>
    intro i σ hi h18 hK
    have hv : vp_in (nI i) 30 := vp_in_nI (by omega) (by decide)
    have hv1 : vp_in (nI (i + 1)) 30 := vp_in_nI (by omega) (by decide)
    refine ⟨fun z => absurd z (by rw [h18]; exact nI_ge (by omega) (by omega)), fun _ => ?_⟩
    rw [nI_1, nI_clamp (show i < 2 ^ 31 by omega), nI_clamp (show i + 1 < 2 ^ 31 by omega)]
    refine ⟨hv1, hv, fun s4 e4 => ⟨hv1, hv, fun s5 e5 => ⟨hv1, hv, fun s6 e6 => ⟨hv1, hv, fun s7 e7 => ⟨hv1, hv, fun s8 e8 => ⟨hv1, hv, fun s9 e9 => ⟨hv1, hv, fun s10 e10 x ex => ?_⟩⟩⟩⟩⟩⟩⟩
    rw [ex]
    have f5 : s4 72 (i + 1) = σ 72 (i + 1) := by rw [e4, up_ne _ _ (by omega)]
    have f6 : s5 73 (i + 1) = σ 73 (i + 1) := by rw [e5, up_ne _ _ (by omega), e4, up_ne _ _ (by omega)]
    have f7 : s6 74 (i + 1) = σ 74 (i + 1) := by rw [e6, up_ne _ _ (by omega), e5, up_ne _ _ (by omega), e4, up_ne _ _ (by omega)]
    have f8 : s7 75 (i + 1) = σ 75 (i + 1) := by rw [e7, up_ne _ _ (by omega), e6, up_ne _ _ (by omega), e5, up_ne _ _ (by omega), e4, up_ne _ _ (by omega)]
    have f9 : s8 76 (i + 1) = σ 76 (i + 1) := by rw [e8, up_ne _ _ (by omega), e7, up_ne _ _ (by omega), e6, up_ne _ _ (by omega), e5, up_ne _ _ (by omega), e4, up_ne _ _ (by omega)]
    have f10 : s9 77 (i + 1) = σ 77 (i + 1) := by rw [e9, up_ne _ _ (by omega), e8, up_ne _ _ (by omega), e7, up_ne _ _ (by omega), e6, up_ne _ _ (by omega), e5, up_ne _ _ (by omega), e4, up_ne _ _ (by omega)]
    rw [f5] at e5
    rw [f6] at e6
    rw [f7] at e7
    rw [f8] at e8
    rw [f9] at e9
    rw [f10] at e10
    have fr : ∀ a b, ¬ (71 ≤ a ∧ a ≤ 77 ∧ b = i) → s10 a b = σ a b := fun a b z => by
      rw [e10, up_ne _ _ (by omega), e9, up_ne _ _ (by omega), e8, up_ne _ _ (by omega), e7, up_ne _ _ (by omega), e6, up_ne _ _ (by omega), e5, up_ne _ _ (by omega), e4, up_ne _ _ (by omega)]
    have fi : ∀ a, 71 ≤ a → a ≤ 77 → s10 a i = σ a (i + 1) := fun a z1 z2 => by
      rcases (show a = 71 ∨ a = 72 ∨ a = 73 ∨ a = 74 ∨ a = 75 ∨ a = 76 ∨ a = 77 by omega) with e | e | e | e | e | e | e
      · subst e; rw [e10, up_ne _ _ (by omega), e9, up_ne _ _ (by omega), e8, up_ne _ _ (by omega), e7, up_ne _ _ (by omega), e6, up_ne _ _ (by omega), e5, up_ne _ _ (by omega), e4, up_self]
      · subst e; rw [e10, up_ne _ _ (by omega), e9, up_ne _ _ (by omega), e8, up_ne _ _ (by omega), e7, up_ne _ _ (by omega), e6, up_ne _ _ (by omega), e5, up_self]
      · subst e; rw [e10, up_ne _ _ (by omega), e9, up_ne _ _ (by omega), e8, up_ne _ _ (by omega), e7, up_ne _ _ (by omega), e6, up_self]
      · subst e; rw [e10, up_ne _ _ (by omega), e9, up_ne _ _ (by omega), e8, up_ne _ _ (by omega), e7, up_self]
      · subst e; rw [e10, up_ne _ _ (by omega), e9, up_ne _ _ (by omega), e8, up_self]
      · subst e; rw [e10, up_ne _ _ (by omega), e9, up_self]
      · subst e; rw [e10, up_self]
    refine ih (i + 1) s10 (by omega) (by rw [fr 63 18 (by omega)]; exact h18) (fun τ g1 g2 => hK τ (fun a b z1 z2 z3 z4 => ?_) (fun a b z => ?_))
    · by_cases eb : b = i
      · subst eb; rw [g2 a b (by omega)]; exact fi a z1 z2
      · rw [g1 a b z1 z2 (by omega) z4]; exact fr a (b + 1) (by omega)
    · rw [g2 a b (by omega)]; exact fr a b (by omega)
theorem get_del {A : List Tk} {T : Tk} {B : List Tk} {i : Nat} : (A ++ B)[i]? = if i < A.length then (A ++ T :: B)[i]? else (A ++ T :: B)[i + 1]? := by
  by_cases h : i < A.length
  · rw [if_pos h, List.getElem?_append_left h, List.getElem?_append_left h]
  · rw [if_neg h, List.getElem?_append_right (by omega), List.getElem?_append_right (by omega), show i + 1 - A.length = (i - A.length) + 1 by omega]
    rfl
/-- a ticket ends in the reference -/
theorem e9 {σ0 : ST} {A : List Tk} {T : Tk} {B : List Tk} {st we : Nat → Int32} {lo br ba : Int32} {σ : ST} (h : V9 σ0 (A ++ T :: B) st we lo br ba σ) {q : Nat} (hq : q < 10) (hT : T 1 = nI q) {Q : ST → Prop} (hQ : ∀ τ, V9 σ0 (A ++ B) st we lo br ba τ → Q τ) : w_X9_end σ (nI A.length) Q := by
  obtain ⟨hl, hr, -⟩ := h.row
  obtain ⟨a1, a2, a3, a4, a5, a6, a7, a8⟩ := h
  have hv : vp_in (nI A.length) 30 := vp_in_nI hl (by decide)
  have hq10 : vp_in (nI q) 10 := vp_in_nI hq (by decide)
  have r1 : σ 72 A.length = nI q := by rw [← hT]; exact hr 1 (by omega)
  have r3 : σ 73 A.length = T 3 := hr 3 (by omega)
  have hcl := nI_clamp (show q < 2 ^ 31 by omega)
  unfold w_X9_end
  rw [nI_clamp (show A.length < 2 ^ 31 by omega), r1, r3, hcl]
  refine ⟨hv, hq10, hv, hq10, fun s1 e1 => ?_⟩
  rw [show s1 72 A.length = nI q by rw [e1, up_ne _ _ (by omega)]; exact r1, show s1 73 A.length = T 3 by rw [e1, up_ne _ _ (by omega)]; exact r3, hcl]
  refine ⟨hv, hq10, hv, hq10, fun s2 e2 s3 e3 => ?_⟩
  have hlen : (A ++ T :: B).length = A.length + B.length + 1 := by simp; omega
  have e18 : s2 63 18 - 1 = nI (A.length + B.length) := by rw [e2, up_ne _ _ (by omega), e1, up_ne _ _ (by omega), a2, hlen, nI_pred]
  rw [e18] at e3
  refine ⟨B.length + 1, shl9 (m := A.length + B.length) (by omega) B.length A.length s3 rfl (by rw [e3, up_self]) (fun τ g1 g2 => hQ τ ?_)⟩
  have ag3 : ∀ a b, ¬ (a = 63 ∧ b = 18) → ¬ (a = 66 ∧ b = q) → ¬ (a = 67 ∧ b = q) → s3 a b = σ a b := fun a b z1 z2 z3 => by rw [e3, up_ne _ _ z1, e2, up_ne _ _ z3, e1, up_ne _ _ z2]
  have agt : ∀ a b, ¬ (71 ≤ a ∧ a ≤ 77) → τ a b = s3 a b := fun a b z => g2 a b (by omega)
  refine ⟨by rw [List.length_append]; omega, by rw [agt 63 18 (by omega), e3, up_self, List.length_append], fun i X hX j hj => ?_, fun s hs => ?_, by rw [agt _ _ (by omega), ag3 _ _ (by omega) (by omega) (by omega)]; exact a5, by rw [agt _ _ (by omega), ag3 _ _ (by omega) (by omega) (by omega)]; exact a6, by rw [agt _ _ (by omega), ag3 _ _ (by omega) (by omega) (by omega)]; exact a7, fun a b hab => ?_⟩
  · have hrc := rc_b j hj
    have hil := (List.getElem?_eq_some_iff.mp hX).1
    rw [List.length_append] at hil
    rw [get_del (T := T)] at hX
    by_cases hi : i < A.length
    · rw [if_pos hi] at hX
      rw [g2 _ _ (by omega), ag3 _ _ (by omega) (by omega) (by omega)]
      exact a3 i X hX j hj
    · rw [if_neg hi] at hX
      rw [g1 _ _ hrc.1 hrc.2 (by omega) (by omega), ag3 _ _ (by omega) (by omega) (by omega)]
      exact a3 (i + 1) X hX j hj
  · obtain ⟨b1, b2, b3⟩ := a4 s hs
    rw [sm_mid] at b2
    rw [agt _ _ (by omega), agt _ _ (by omega), agt _ _ (by omega), ag3 68 s (by omega) (by omega) (by omega)]
    by_cases es : s = q
    · subst es
      have x66 : s3 66 s = σ 66 s + T 3 := by rw [e3, up_ne _ _ (by omega), e2, up_ne _ _ (by omega), e1, up_self]
      have x67 : s3 67 s = σ 67 s - T 3 := by rw [e3, up_ne _ _ (by omega), e2, up_self, e1, up_ne _ _ (by omega)]
      rw [x66, x67]
      refine ⟨by rw [mv4]; exact b1, ?_, b3⟩
      rw [b2]
      unfold hc
      rw [if_pos hT, add_sub_r]
    · rw [ag3 _ _ (by omega) (by omega) (by omega), ag3 _ _ (by omega) (by omega) (by omega)]
      refine ⟨b1, ?_, b3⟩
      rw [b2]
      unfold hc
      rw [if_neg (by rw [hT, nI_eq (by omega) (by omega)]; omega), Int32.add_zero]
  · rw [agt a b (by omega), ag3 a b (by omega) (by omega) (by omega)]; exact a8 a b hab
theorem rev_i (R : List Tk) : ∀ (B : List Tk) (T : Tk), (T :: R).reverse ++ B = R.reverse ++ T :: B := fun B T => by rw [List.reverse_cons, List.append_assoc]; rfl
theorem t116 {σ0 : ST} {v1 v2 v3 v4 : Int32} {st we : Nat → Int32} {lo br ba : Int32} {s : Nat} (hs : s < 10) {K : ST → Prop} {Q : Int32 → ST → Prop} : ∀ (R B : List Tk) (σ : ST), V9 σ0 (R.reverse ++ B) st we lo br ba σ → (∀ τ, V9 σ0 (R.reverse.filter (fun T => decide (T 1 ≠ nI s)) ++ B) st we lo br ba τ → K τ) → w_X9_hour_L116 v1 v2 v3 v4 (nI s) K Q (R.length + 1) σ (nI R.length - 1) := by
  intro R
  induction R with
  | nil => intro B σ h hK; exact ⟨fun _ => hK σ h, fun z => absurd (by decide) z⟩
  | cons T R ih =>
    intro B σ h hK
    rw [rev_i] at h
    obtain ⟨hl, hr, -⟩ := h.row
    rw [List.length_reverse] at hl hr
    rw [List.length_cons, nI_pred]
    refine ⟨fun z => absurd z (nI_pos (by omega)), fun _ => ⟨vp_in_nI hl (by decide), ?_⟩⟩
    rw [nI_clamp (show R.length < 2 ^ 31 by omega), show σ 72 R.length = T 1 from hr 1 (by omega)]
    refine ⟨fun c x ex => ?_, fun c => ?_⟩
    · rw [ex, add_neg']
      refine ih (T :: B) σ h (fun τ hτ => hK τ ?_)
      rw [List.reverse_cons, List.filter_append, List.append_assoc, List.filter_cons_of_pos (by simpa using c)]
      exact hτ
    · have := e9 h hs c (Q := fun s8 => ∀ x4 : Int32, x4 = nI R.length + (-1) → (w_X9_hour_L116 v1 v2 v3 v4 (nI s) K Q (R.length + 1) s8 x4)) (fun τ hτ x ex => ?_)
      · rw [List.length_reverse] at this; exact this
      · rw [ex, add_neg']
        refine ih B τ hτ (fun τ hτ => hK τ ?_)
        rw [List.reverse_cons, List.filter_append, List.append_assoc, List.filter_cons_of_neg (by simpa using c)]
        exact hτ
def qd (ht : Nat → Int32) (v : Int32) (i : Nat) (T : Tk) : Bool := !(decide (N (T 1) < i) && dr ht v (N (T 1)))
theorem qd_n {ht : Nat → Int32} {v : Int32} {i : Nat} (h : dr ht v i = false) (L : List Tk) : L.filter (qd ht v (i + 1)) = L.filter (qd ht v i) := by
  refine List.filter_congr (fun T _ => ?_)
  unfold qd
  by_cases e : N (T 1) = i
  · rw [e, h]; simp
  · simp only [show N (T 1) < i + 1 ↔ N (T 1) < i by omega]
theorem qd_y {ht : Nat → Int32} {v : Int32} {i : Nat} (hi : i < 2 ^ 31) (h : dr ht v i = true) (L : List Tk) (hL : ∀ T, T ∈ L → nn (T 1)) : (L.filter (qd ht v i)).filter (fun T => decide (T 1 ≠ nI i)) = L.filter (qd ht v (i + 1)) := by
  rw [List.filter_filter]
  refine List.filter_congr (fun T hT => ?_)
  unfold qd
  have hn := hL T hT
  by_cases e : N (T 1) = i
  · have e2 : T 1 = nI i := by rw [hn, e]
    rw [e, h]
    simp [e2]
  · have e2 : ¬ T 1 = nI i := fun z => e (by rw [z]; exact N_nI hi)
    simp only [show N (T 1) < i + 1 ↔ N (T 1) < i by omega]
    simp [e2]
theorem qd_0 {ht : Nat → Int32} {v : Int32} (L : List Tk) : L.filter (qd ht v 0) = L := by
  rw [List.filter_eq_self]
  intro T _
  unfold qd
  simp
theorem tide9 {σ0 : ST} {ht : Nat → Int32} {v v2 v3 v4 : Int32} {n : Nat} (hn : n ≤ 10) (h10 : σ0 63 10 = nI n) (hht : ∀ q, q < 10 → σ0 64 q = ht q) {L : List Tk} (hL : ∀ T, T ∈ L → nn (T 1)) {st we : Nat → Int32} {lo br ba : Int32} {K : ST → Prop} {Q : Int32 → ST → Prop} (hK : ∀ τ, V9 σ0 (L.filter (qd ht v n)) (tst ht v st n) we (tlo ht v st lo n) br ba τ → K τ) : ∀ (d i : Nat) (σ : ST), i + d = n → V9 σ0 (L.filter (qd ht v i)) (tst ht v st i) we (tlo ht v st lo i) br ba σ → w_X9_hour_L88 v v2 v3 v4 K Q (d + 1) σ (nI i) := by
  intro d
  induction d with
  | zero =>
    intro i σ hi h
    obtain rfl : i = n := by omega
    refine ⟨fun _ => hK σ h, fun z => absurd ?_ z⟩
    rw [h.2.2.2.2.2.2.2 63 10 (by omega), h10]; exact Int32.le_refl _
  | succ d ih =>
    intro i σ hi h
    have hcl := nI_clamp (show i < 2 ^ 31 by omega)
    have hv : vp_in (nI i) 10 := vp_in_nI (by omega) (by decide)
    refine ⟨fun z => absurd z (by rw [h.2.2.2.2.2.2.2 63 10 (by omega), h10]; exact nI_ge (by omega) (by omega)), fun _ => ⟨hv, ?_⟩⟩
    rw [hcl, show σ 64 i = ht i by rw [h.2.2.2.2.2.2.2 64 i (by omega)]; exact hht i (by omega)]
    refine ⟨fun c x1 ex1 => ?_, fun c x2 ex2 => ?_⟩
    · rw [ex1, nI_1]
      have hd : dr ht v i = false := by unfold dr; simpa using c
      refine ih (i + 1) σ (by omega) ?_
      rw [tst_n hd, qd_n hd]
      unfold tlo
      rw [hd]
      exact h
    · have hd : dr ht v i = true := by unfold dr; simpa using c
      obtain ⟨y1, y2⟩ := tst_y (st := st) hd
      have h18 := h.2.1
      rw [ex2, h18]
      refine ⟨(L.filter (qd ht v i)).reverse.length + 1, ?_⟩
      have := t116 (σ0 := σ0) (v1 := v) (v2 := v2) (v3 := v3) (v4 := v4) (st := tst ht v st i) (we := we) (lo := tlo ht v st lo i) (br := br) (ba := ba) (s := i) (by omega) (K := fun (s9 : ST) => w_X9_standing s9 (nI i) (fun r6 s10 => ∀ s11 : ST, s11 = up s10 63 2 ((s9 63 2) + r6) → (vp_in (nI i) 10 ∧ (∀ s12 : ST, s12 = up s11 66 i 0 → (vp_in (nI i) 10 ∧ (∀ s13 : ST, s13 = up s12 67 i 0 → (∀ x5 : Int32, x5 = nI i + 1 → (w_X9_hour_L88 v v2 v3 v4 K Q (d + 1) s13 x5)))))))) (Q := Q) (L.filter (qd ht v i)).reverse [] σ (by rw [List.reverse_reverse, List.append_nil]; exact h) (fun τ hτ => ?_)
      · rw [List.length_reverse] at this
        rw [List.length_reverse]
        exact this
      · rw [List.reverse_reverse, List.append_nil, qd_y (by omega) hd L hL] at hτ
        refine ⟨hv, hv, ?_⟩
        intro s11 e11
        refine ⟨hv, fun s12 e12 => ⟨hv, fun s13 e13 x5 ex5 => ?_⟩⟩
        rw [ex5, nI_1]
        refine ih (i + 1) s13 (by omega) ?_
        rw [y1]
        unfold tlo
        rw [hd]
        obtain ⟨a5, a6, a7, a8⟩ := hτ.2.2.2.2
        have a4 := hτ.2.2.2.1
        rw [hcl] at e11
        have ag : ∀ a b, ¬ (a = 63 ∧ b = 2) → ¬ (a = 66 ∧ b = i) → ¬ (a = 67 ∧ b = i) → s13 a b = τ a b := fun a b z1 z2 z3 => by rw [e13, up_ne _ _ z3, e12, up_ne _ _ z2, e11, up_ne _ _ z1]
        refine hτ.sc (fun s hs => ?_) ?_ (by rw [ag _ _ (by omega) (by omega) (by omega)]; exact a6) (by rw [ag _ _ (by omega) (by omega) (by omega)]; exact a7) (fun a b z1 z2 => ag a b (by omega) (by omega) (by omega))
        · obtain ⟨b1, b2, b3⟩ := a4 s hs
          rw [ag 68 s (by omega) (by omega) (by omega)]
          by_cases es : s = i
          · subst es
            have x66 : s13 66 s = 0 := by rw [e13, up_ne _ _ (by omega), e12, up_self]
            have x67 : s13 67 s = 0 := by rw [e13, up_self]
            rw [x66, x67, upd_s]
            refine ⟨rfl, ?_, b3⟩
            rw [sm_zero]
            intro T hT
            unfold hc
            refine if_neg (fun z => ?_)
            have hq := (List.mem_filter.mp hT).2
            unfold qd at hq
            rw [z, N_nI (by omega), hd] at hq
            simp at hq
          · rw [ag _ _ (by omega) (by omega) (by omega), ag _ _ (by omega) (by omega) (by omega), upd_n _ es]
            exact ⟨b1, b2, b3⟩
        · rw [e13, up_ne _ _ (by omega), e12, up_ne _ _ (by omega), e11, up_self, a5, (a4 i (by omega)).1, if_pos rfl, y2]
theorem sm_rev (f : Tk → Int32) : ∀ R : List Tk, sm f R.reverse = sm f R := by
  intro R
  induction R with
  | nil => rfl
  | cons T R ih =>
    rw [List.reverse_cons, sm_app, ih]
    show sm f R + (f T + 0) = f T + sm f R
    rw [Int32.add_zero, Int32.add_comm]
theorem wind9 {σ0 : ST} {v2 v3 v4 : Int32} {st we : Nat → Int32} {lo br : Int32} (hv : ¬ v2 ≤ σ0 63 5) {K : ST → Prop} {Q : Int32 → ST → Prop} : ∀ (R : List Tk) (σ : ST) (ba : Int32), (∀ T, T ∈ R → ∃ q, q < 10 ∧ T 1 = nI q) → V9 σ0 R.reverse st we lo br ba σ → (∀ τ, V9 σ0 [] st we lo br (ba + sm pay R) τ → K τ) → w_X9_hour_L182 v2 v3 v4 K Q (R.length + 1) σ := by
  intro R
  induction R with
  | nil =>
    intro σ ba _ h hK
    have hK' := hK σ (by show V9 _ _ _ _ _ _ (ba + 0) _; rw [Int32.add_zero]; exact h)
    exact ⟨fun _ => hK', fun _ => ⟨fun _ => hK', fun z => absurd (by rw [h.2.1]; exact Int32.le_refl _) z⟩⟩
  | cons T R ih =>
    intro σ ba hp h hK
    have h' := h
    rw [← List.append_nil (T :: R).reverse, rev_i] at h'
    obtain ⟨hl, hr, -⟩ := h'.row
    rw [List.length_reverse] at hl hr
    have h18 : σ 63 18 - 1 = nI R.length := by rw [h.2.1, List.length_reverse, List.length_cons, nI_pred]
    have hv30 : vp_in (nI R.length) 30 := vp_in_nI hl (by decide)
    obtain ⟨q, hq, hT⟩ := hp T List.mem_cons_self
    refine ⟨fun z => absurd z (by rw [h.2.2.2.2.2.2.2 63 5 (by omega)]; exact hv), fun _ => ⟨fun z => absurd z ?_, fun _ => ?_⟩⟩
    · rw [h.2.1, List.length_reverse, List.length_cons]; exact nI_nle (by omega) (by omega)
    · rw [h18, nI_clamp (show R.length < 2 ^ 31 by omega)]
      refine ⟨hv30, hv30, hv30, fun s15 e15 => ?_⟩
      rw [show s15 63 18 - 1 = nI R.length by rw [e15, up_ne _ _ (by omega)]; exact h18]
      obtain ⟨a5, a6, a7, a8⟩ := h'.2.2.2.2
      have h1 : V9 σ0 (R.reverse ++ T :: []) st we lo br (ba + pay T) s15 := by
        refine h'.sc (fun s hs => ?_) (by rw [e15, up_ne _ _ (by omega)]; exact a5) (by rw [e15, up_ne _ _ (by omega)]; exact a6) ?_ (fun a b z1 z2 => by rw [e15, up_ne _ _ (by omega)])
        · rw [e15, up_ne _ _ (by omega), up_ne _ _ (by omega), up_ne _ _ (by omega)]; exact h'.2.2.2.1 s hs
        · rw [e15, up_self, a7, show σ 76 R.length = T 5 from hr 5 (by omega), show σ 73 R.length = T 3 from hr 3 (by omega), show σ 74 R.length = T 4 from hr 4 (by omega)]; rfl
      have := e9 h1 hq hT (Q := fun s16 => w_X9_hour_L182 v2 v3 v4 K Q (R.length + 1) s16) (fun τ hτ => ?_)
      · rw [List.length_reverse] at this; exact this
      · rw [List.append_nil] at hτ
        refine ih τ _ (fun U hU => hp U (List.mem_cons_of_mem _ hU)) hτ (fun τ hτ => hK τ ?_)
        rw [Int32.add_assoc] at hτ
        exact hτ
def rp (fr pt : Nat → Int32) (v : Int32) : Nat → Int32 → Int32
  | 0, x => x
  | k + 1, x => rp fr pt v k (if v < fr k then x else pt k)
theorem rp_cp (fr pt : Nat → Int32) (v : Int32) : ∀ k d, rp fr pt v k (cp fr pt v d k) = cp fr pt v (d + k) 0 := by
  intro k
  induction k with
  | zero => intro d; rfl
  | succ k ih =>
    intro d
    unfold rp
    have : (if v < fr k then cp fr pt v d (k + 1) else pt k) = cp fr pt v (d + 1) k := rfl
    rw [this, ih, show d + 1 + k = d + (k + 1) by omega]
theorem part9 {σ : ST} {fr pt : Nat → Int32} {v v4 : Int32} {K : ST → Int32 → Prop} {Q : Int32 → ST → Prop} : ∀ (k : Nat) (x : Int32), k ≤ 5 → (∀ j, j < k → σ 78 j = fr j ∧ σ 79 j = pt j) → K σ (rp fr pt v k x) → w_X9_hour_L265 v v4 K Q (k + 1) σ x (nI k - 1) := by
  intro k
  induction k with
  | zero => intro x _ _ hK; exact ⟨fun _ => hK, fun z => absurd (by decide) z⟩
  | succ k ih =>
    intro x hk hf hK
    have hv : vp_in (nI k) 5 := vp_in_nI (by omega) (by decide)
    rw [nI_pred]
    refine ⟨fun z => absurd z (nI_pos (by omega)), fun _ => ⟨hv, ?_⟩⟩
    rw [nI_clamp (show k < 2 ^ 31 by omega), (hf k (by omega)).1, (hf k (by omega)).2]
    unfold rp at hK
    refine ⟨fun c x7 ex7 => ?_, fun c => ⟨hv, fun x8 ex8 x9 ex9 => ?_⟩⟩
    · rw [ex7, add_neg']
      rw [if_pos c] at hK
      exact ih x (by omega) (fun j hj => hf j (by omega)) hK
    · rw [ex8, ex9, add_neg']
      rw [if_neg c] at hK
      exact ih _ (by omega) (fun j hj => hf j (by omega)) hK
theorem rain9 {σ0 : ST} {v4 v : Int32} {st we : Nat → Int32} {lo br : Int32} {K : ST → Prop} {Q : Int32 → ST → Prop} : ∀ (B A : List Tk) (σ : ST) (ba : Int32), V9 σ0 (A ++ B) st we lo br ba σ → (∀ τ, V9 σ0 (A ++ B) st we lo br (ba + sm (payr v) B) τ → K τ) → w_X9_hour_L304 v4 v K Q (B.length + 1) σ (nI A.length) := by
  intro B
  induction B with
  | nil =>
    intro A σ ba h hK
    refine ⟨fun _ => hK σ (by show V9 _ _ _ _ _ _ (ba + 0) _; rw [Int32.add_zero]; exact h), fun z => absurd ?_ z⟩
    rw [h.2.1, List.append_nil]; exact Int32.le_refl _
  | cons T B ih =>
    intro A σ ba h hK
    obtain ⟨hl, hr, -⟩ := h.row
    have hv : vp_in (nI A.length) 30 := vp_in_nI hl (by decide)
    refine ⟨fun z => absurd z ?_, fun _ => ⟨hv, hv, fun s1 e1 x1 ex1 => ?_⟩⟩
    · rw [h.2.1]; exact nI_ge (by simp) (by have := h.1; omega)
    rw [ex1, nI_1]
    have h1 : V9 σ0 ((A ++ [T]) ++ B) st we lo br (ba + payr v T) s1 := by
      rw [List.append_assoc]
      obtain ⟨a5, a6, a7, a8⟩ := h.2.2.2.2
      refine h.sc (fun s hs => ?_) (by rw [e1, up_ne _ _ (by omega)]; exact a5) (by rw [e1, up_ne _ _ (by omega)]; exact a6) ?_ (fun a b z1 z2 => by rw [e1, up_ne _ _ (by omega)])
      · rw [e1, up_ne _ _ (by omega), up_ne _ _ (by omega), up_ne _ _ (by omega)]; exact h.2.2.2.1 s hs
      · rw [e1, up_self, a7, nI_clamp (show A.length < 2 ^ 31 by omega), show σ 76 A.length = T 5 from hr 5 (by omega), show σ 73 A.length = T 3 from hr 3 (by omega)]; rfl
    have := ih (A ++ [T]) s1 _ h1 (fun τ hτ => hK τ (by
      rw [List.append_assoc, Int32.add_assoc] at hτ
      exact hτ))
    rw [List.length_append] at this
    exact this
