/-! hour: the class's wear, an hour passes, ended tickets are dropped -/
theorem late8 {σ0 : ST} {L : List Tk} {st we : Nat → Int32} {lo br ba : Int32} {σ : ST} {s : Nat} {K : ST → Prop} {Q : Option Nat → ST → Prop} (h : V8 σ0 L st we lo br ba σ)
    (h1 : ∀ A T B, L = A ++ T :: B → T 1 = nI s → 0 < T 3 → (∀ U, U ∈ B → ¬ (U 1 = nI s ∧ 0 < U 3)) → ∀ k, k = 33 + (σ 3 A.length).toNatClampNeg → Q (some k) σ) (h0 : (∀ U, U ∈ L → ¬ (U 1 = nI s ∧ 0 < U 3)) → K σ) :
    ∀ (R B : List Tk), L = R.reverse ++ B → (∀ U, U ∈ B → ¬ (U 1 = nI s ∧ 0 < U 3)) → w_X7_latestAt_L7 (nI s) K Q (R.length + 1) σ (nI R.length - 1) := by
  intro R
  induction R with
  | nil =>
    intro B hL hB
    refine ⟨fun _ => h0 (by rw [hL]; exact hB), fun z => absurd (by decide) z⟩
  | cons T R ih =>
    intro B hL hB
    have hL2 : L = R.reverse ++ T :: B := by rw [hL, List.reverse_cons, List.append_assoc]; rfl
    have h' := h
    rw [hL2] at h'
    obtain ⟨b1, b2, b3, b4⟩ := at3 h'
    obtain ⟨hl, p, hpp, e3, hr, nx⟩ := id h'.row
    rw [List.length_reverse] at b1 b2 b3 b4 e3 hl
    rw [List.length_cons, nI_pred]
    refine ⟨fun z => absurd z (nI_pos (by omega)), fun _ => ⟨b1, b2, fun k1 ek1 => ?_⟩⟩
    have step : ¬ (T 1 = nI s ∧ 0 < T 3) → ∀ x : Int32, x = nI R.length + (-1) → w_X7_latestAt_L7 (nI s) K Q (R.length + 1) σ x := fun hT x ex => by
      rw [ex, add_neg']
      refine ih (T :: B) hL2 (fun U hU => ?_)
      rcases List.mem_cons.mp hU with e | e
      · rw [e]; exact hT
      · exact hB U e
    rw [b4, e3, nI_clamp (show p < 2 ^ 31 by omega)] at ek1
    rw [show σ k1 1 = T 1 by rw [ek1]; exact hr 1 (by omega)]
    refine ⟨fun c => step (fun z => c z.1), fun c => ⟨b1, b2, fun k2 ek2 => ?_⟩⟩
    rw [b4, e3, nI_clamp (show p < 2 ^ 31 by omega)] at ek2
    rw [show σ k2 3 = T 3 by rw [ek2]; exact hr 3 (by omega)]
    refine ⟨fun c2 => step (fun z => Int32.not_le.mpr z.2 c2), fun c2 => ⟨b1, b2, fun k3 ek3 => ?_⟩⟩
    rw [b4] at ek3
    exact h1 R.reverse T B hL2 c (Int32.not_le.mp c2) hB k3 (by rw [List.length_reverse]; exact ek3)
theorem brk8 {σ0 : ST} {W : Wk} {we : Nat → Int32} {lo ba : Int32} {σ : ST} {s : Nat} (hs : s < 10) (h : V8 σ0 W.1 W.2.1 we lo W.2.2 ba σ) {Q : ST → Prop} (hQ : ∀ τ, V8 σ0 (brk s W).1 (brk s W).2.1 we lo (brk s W).2.2 ba τ → Q τ) : w_X8_breakChair σ (nI s) Q := by
  obtain ⟨L, st, br⟩ := W
  simp only at h
  have a4 := h.2.2.2.1
  obtain ⟨a5, a6, a7, a8⟩ := h.2.2.2.2
  obtain ⟨c1, c2, c3⟩ := a4 s hs
  unfold brk at hQ
  simp only at hQ
  unfold w_X8_breakChair
  rw [nI_clamp (show s < 2 ^ 31 by omega)]
  refine ⟨vp_in_nI hs (by decide), fun k ek => ?_⟩
  subst ek
  rw [c1]
  refine ⟨fun e1 => ?_, fun e1 => ?_⟩
  · unfold w_X4_free
    rw [c1, c2]
    refine ⟨fun e2 s2 d2 s3 d3 => hQ s3 ?_, fun e2 => ?_⟩
    · simp only [e1, e2, if_true, if_false, not_false_eq_true]
      have ag : ∀ a b, ¬ (a = 0 ∧ b = 2) → ¬ (a = 23 + s ∧ b = 2) → s3 a b = σ a b := fun a b z1 z2 => by rw [d3, up_ne _ _ z1, d2, up_ne _ _ z2]
      refine h.sc (fun i hi => ?_) (by rw [ag 0 1 (by omega) (by omega)]; exact a5) ?_ (by rw [ag 2 4 (by omega) (by omega)]; exact a7) (fun a b z1 z2 z3 => ag a b (by omega) (by omega))
      · obtain ⟨b1, b2, b3⟩ := a4 i hi
        refine ⟨?_, by rw [ag _ _ (by omega) (by omega)]; exact b2, by rw [ag _ _ (by omega) (by omega)]; exact b3⟩
        by_cases es : i = s
        · subst es; rw [upd_s, d3, up_ne _ _ (by omega), d2, up_self, b1]
        · rw [upd_n _ es, ag _ _ (by omega) (by omega)]; exact b1
      · rw [d3, up_self, d2, up_ne _ _ (by omega), a6]
    · have e2' : ¬ ¬ st s - sm (hc s) L = 0 := fun z => z e2
      simp only [e1, e2', if_false] at hQ
      intro x1 ex1
      rw [h.2.1] at ex1
      refine ⟨L.length + 1, ?_⟩
      have := late8 (K := fun s1 => ((none : Option Nat) = none → Q s1) ∧ (∀ k2 : Nat, none = some k2 → okc 6 k2 ∧ (∀ s5 : ST, s5 = up s1 k2 3 ((s1 k2 3) - 1) → (∀ s6 : ST, s6 = up s5 (23 + s) 3 ((s5 (23 + s) 3) - 1) → (∀ s7 : ST, s7 = up s6 (23 + s) 2 ((s6 (23 + s) 2) - 1) → (∀ s8 : ST, s8 = up s7 0 2 ((s7 0 2) + 1) → (Q s8)))))))
        (Q := fun r2 s4 => ((r2 = none → (Q s4)) ∧ (∀ k2 : Nat, r2 = some k2 → okc 6 k2 ∧ (∀ s5 : ST, s5 = up s4 k2 3 ((s4 k2 3) - 1) → (∀ s6 : ST, s6 = up s5 (23 + s) 3 ((s5 (23 + s) 3) - 1) → (∀ s7 : ST, s7 = up s6 (23 + s) 2 ((s6 (23 + s) 2) - 1) → (∀ s8 : ST, s8 = up s7 0 2 ((s7 0 2) + 1) → (Q s8)))))))) (s := s) h ?_ ?_ L.reverse [] (by simp) (fun U hU => absurd hU (by simp))
      · rw [List.length_reverse] at this
        rw [ex1]
        exact this
      · intro A T B hL hT hT3 hB k ek
        refine ⟨fun z => absurd z (by simp), fun k2 ek2 => ?_⟩
        injection ek2 with ek2
        subst ek2
        rw [hL, ld_some ⟨hT, hT3⟩ hB A] at hQ
        simp only at hQ
        have h' := h
        rw [hL] at h'
        obtain ⟨hl, p, hpp, e3, hr, nx⟩ := h'.row
        rw [e3, nI_clamp (show p < 2 ^ 31 by omega)] at ek
        subst ek
        refine ⟨okT hpp, fun s5 d5 s6 d6 s7 d7 s8 d8 => hQ s8 ?_⟩
        have ag : ∀ a b, ¬ (a = 0 ∧ b = 2) → ¬ (a = 23 + s ∧ (b = 2 ∨ b = 3)) → ¬ (a = 33 + p ∧ b = 3) → s8 a b = σ a b := fun a b z1 z2 z3 => by
          rw [d8, up_ne _ _ z1, d7, up_ne _ _ (by omega), d6, up_ne _ _ (by omega), d5, up_ne _ _ z3]
        refine nx _ _ we lo _ ba s8 (fun j hj => ?_) (fun i hi => ?_) (by rw [ag 0 1 (by omega) (by omega) (by omega)]; exact a5) ?_ (by rw [ag 2 4 (by omega) (by omega) (by omega)]; exact a7) (fun a b z1 z2 z3 z4 => ag a b (by omega) (by omega) (by omega))
        · by_cases ej : j = 3
          · subst ej
            rw [d8, up_ne _ _ (by omega), d7, up_ne _ _ (by omega), d6, up_ne _ _ (by omega), d5, up_self, hr 3 (by omega)]
            rfl
          · rw [ag _ _ (by omega) (by omega) (by omega), hr j hj]; exact (if_neg ej).symm
        · obtain ⟨b1, b2, b3⟩ := a4 i hi
          rw [hL, sm_mid] at b2
          rw [sm_mid]
          by_cases es : i = s
          · subst es
            refine ⟨?_, ?_, by rw [ag _ _ (by omega) (by omega) (by omega)]; exact b3⟩
            · rw [upd_s, d8, up_ne _ _ (by omega), d7, up_self, d6, up_ne _ _ (by omega), d5, up_ne _ _ (by omega), b1]
            · rw [d8, up_ne _ _ (by omega), d7, up_ne _ _ (by omega), d6, up_self, d5, up_ne _ _ (by omega), b2]
              unfold hc
              rw [if_pos hT, if_pos (show (sT T 3 (T 3 - 1)) 1 = nI i from hT)]
              show _ = _ + (T 3 - 1)
              rw [Int32.sub_eq_add_neg, Int32.sub_eq_add_neg, Int32.add_assoc]
          · refine ⟨by rw [upd_n _ es, ag _ _ (by omega) (by omega) (by omega)]; exact b1, ?_, by rw [ag _ _ (by omega) (by omega) (by omega)]; exact b3⟩
            rw [ag _ _ (by omega) (by omega) (by omega), b2]
            unfold hc
            have hne : ¬ T 1 = nI i := by rw [hT, nI_eq (by omega) (by omega)]; omega
            rw [if_neg hne, if_neg (show ¬ (sT T 3 (T 3 - 1)) 1 = nI i from hne)]
        · rw [d8, up_self, d7, up_ne _ _ (by omega), d6, up_ne _ _ (by omega), d5, up_ne _ _ (by omega), a6]
      · intro hn
        rw [ld_none hn] at hQ
        exact ⟨fun _ => hQ σ h, fun k z => absurd z (by simp)⟩
  · simp only [e1, if_true] at hQ
    exact hQ σ h
theorem w57 {σ0 : ST} {we : Nat → Int32} {lo ba v1 : Int32} {s m : Nat} (hs : s < 10) (hm : m < 2 ^ 31) {K : ST → Prop} {Q : ST → Prop} : ∀ (d i : Nat) (W : Wk) (σ : ST), i + d = m → V8 σ0 W.1 W.2.1 we lo W.2.2 ba σ → (∀ τ, V8 σ0 (it (brk s) d W).1 (it (brk s) d W).2.1 we lo (it (brk s) d W).2.2 ba τ → K τ) → w_X8_wearAll_L57 v1 (nI s) (nI m) K Q (d + 1) σ (nI i) := by
  intro d
  induction d with
  | zero =>
    intro i W σ hi h hK
    obtain rfl : i = m := by omega
    exact ⟨fun _ => hK σ h, fun z => absurd (Int32.le_refl _) z⟩
  | succ d ih =>
    intro i W σ hi h hK
    refine ⟨fun z => absurd z (nI_ge (by omega) hm), fun _ => brk8 hs h (fun τ hτ x ex => ?_)⟩
    rw [ex, nI_1]
    exact ih (i + 1) (brk s W) τ (by omega) hτ hK
def wb (st we : Nat → Int32) : Prop := ∀ s, s < 10 → nn (st s) ∧ N (st s) ≤ 9000 ∧ nn (we s) ∧ N (we s) < 1000
theorem wb_st {st we : Nat → Int32} (h : wb st we) {s : Nat} (e : ¬ st s = 0) : wb (upd st s (st s - 1)) we := by
  intro i hi
  obtain ⟨h1, h2, h3⟩ := h i hi
  by_cases es : i = s
  · subst es
    rw [upd_s]
    have h0 : 1 ≤ N (st i) := by
      rcases Nat.eq_zero_or_pos (N (st i)) with z | z
      · exact absurd (by rw [h1, z]; rfl) e
      · exact z
    have := nn_sub h1 (nn_nI (m := 1) (by decide)) (by rw [N_nI (by decide)]; exact h0)
    rw [N_nI (by decide)] at this
    exact ⟨this.1, by have := this.2; rw [show nI 1 = (1 : Int32) from rfl] at this; omega, h3⟩
  · rw [upd_n _ es]; exact ⟨h1, h2, h3⟩
theorem wb_brk {s : Nat} {W : Wk} {we : Nat → Int32} (h : wb W.2.1 we) : wb (brk s W).2.1 we := by
  obtain ⟨L, st, br⟩ := W
  unfold brk
  simp only at h ⊢
  by_cases e1 : st s = 0
  · simp only [e1, if_true]; exact h
  · by_cases e2 : ¬ st s - sm (hc s) L = 0
    · simp only [e1, e2, if_true, if_false, not_false_eq_true]; exact wb_st h e1
    · simp only [e1, e2, if_false]
      cases a : ld s L with
      | none => exact h
      | some y => exact wb_st h e1
theorem wb_it {s : Nat} {we : Nat → Int32} : ∀ (k : Nat) (W : Wk), wb W.2.1 we → wb (it (brk s) k W).2.1 we := by
  intro k
  induction k with
  | zero => intro W h; exact h
  | succ k ih => intro W h; exact ih _ (wb_brk h)
theorem wb_we {st we : Nat → Int32} (h : wb st we) (s m : Nat) : wb st (upd we s (nI (m % 1000))) := by
  intro i hi
  obtain ⟨h1, h2, h3, h4⟩ := h i hi
  by_cases es : i = s
  · subst es; rw [upd_s]; have := Nat.mod_lt m (show 0 < 1000 by decide); rw [N_nI (by omega)]; exact ⟨h1, h2, nn_nI (by omega), this⟩
  · rw [upd_n _ es]; exact ⟨h1, h2, h3, h4⟩
theorem wb_wr {sun : Nat} {W : Wk} {we : Nat → Int32} (h : wb W.2.1 we) : ∀ s, wb (wr brk sun s (W, we)).1.2.1 (wr brk sun s (W, we)).2 := by
  intro s
  induction s with
  | zero => exact h
  | succ s ih => exact wb_we (wb_it _ _ ih) _ _
theorem wear_e {a sun b : Nat} (ha : a < 1000) (hs : sun ≤ 10) (hb : b ≤ 9000) : nI a + nI sun * nI b = nI (a + sun * b) ∧ a + sun * b < 100000 := by
  refine ⟨by rw [pk_mul, nI_add], ?_⟩
  have : sun * b ≤ 10 * 9000 := Nat.mul_le_mul hs hb
  omega
theorem wear8 {σ0 : ST} {n sun : Nat} (hn : n ≤ 10) (hsun : sun ≤ 10) (h07 : σ0 0 7 = nI n) {W : Wk} {we : Nat → Int32} (hw : wb W.2.1 we) {lo ba : Int32} {K : ST → Prop} {Q : ST → Prop} (hK : ∀ τ, V8 σ0 (wr brk sun n (W, we)).1.1 (wr brk sun n (W, we)).1.2.1 (wr brk sun n (W, we)).2 lo (wr brk sun n (W, we)).1.2.2 ba τ → K τ) : ∀ (d i : Nat) (σ : ST), i + d = n → V8 σ0 (wr brk sun i (W, we)).1.1 (wr brk sun i (W, we)).1.2.1 (wr brk sun i (W, we)).2 lo (wr brk sun i (W, we)).1.2.2 ba σ → w_X8_wearAll_L2 (nI sun) K Q (d + 1) σ (nI i) := by
  intro d
  induction d with
  | zero =>
    intro i σ hi h
    obtain rfl : i = n := by omega
    refine ⟨fun _ => hK σ h, fun z => absurd ?_ z⟩
    rw [h.2.2.2.2.2.2.2 0 7 (by omega), h07]; exact Int32.le_refl _
  | succ d ih =>
    intro i σ hi h
    have hcl := nI_clamp (show i < 2 ^ 31 by omega)
    refine ⟨fun z => absurd z (by rw [h.2.2.2.2.2.2.2 0 7 (by omega), h07]; exact nI_ge (by omega) (by omega)), fun _ => ⟨vp_in_nI (by omega) (by decide), fun k ek s1 e1 x1 ex1 s2 e2 => ?_⟩⟩
    rw [hcl] at ek
    have hwi := wb_wr (sun := sun) hw i
    have hstep : ∀ τ, V8 σ0 (wr brk sun (i + 1) (W, we)).1.1 (wr brk sun (i + 1) (W, we)).1.2.1 (wr brk sun (i + 1) (W, we)).2 lo (wr brk sun (i + 1) (W, we)).1.2.2 ba τ → w_X8_wearAll_L2 (nI sun) K Q (d + 1) τ (nI (i + 1)) := fun τ hτ => ih (i + 1) τ (by omega) hτ
    unfold wr at hstep
    simp only at hstep
    generalize wr brk sun i (W, we) = X at *
    obtain ⟨W1, we1⟩ := X
    simp only at h hwi hstep
    obtain ⟨g1, g2, g3, g4⟩ := hwi i (by omega)
    have a4 := h.2.2.2.1
    obtain ⟨a5, a6, a7, a8⟩ := h.2.2.2.2
    obtain ⟨c1, c2, c3⟩ := a4 i (by omega)
    obtain ⟨w1, w2⟩ := wear_e g4 hsun g2
    have e1' : s1 = up σ k 4 (nI (N (we1 i) + sun * N (W1.2.1 i))) := by
      rw [e1]
      congr 1
      rw [ek, c3, c1, ← w1, ← g3, ← g1]
    generalize hm : N (we1 i) + sun * N (W1.2.1 i) = m at *
    rw [e1', up_self] at ex1 e2
    rw [show (1000 : Int32) = nI 1000 from rfl, pk_div (by omega) (by decide) (by decide)] at ex1
    rw [show (1000 : Int32) = nI 1000 from rfl, pk_rem (by omega) (by decide) (by decide)] at e2
    rw [ex1]
    have hd : m / 1000 ≤ m := Nat.div_le_self _ _
    refine ⟨m / 1000 + 1, w57 (W := W1) (we := upd we1 i (nI (m % 1000))) (lo := lo) (ba := ba) (σ0 := σ0) (by omega) (by omega) (m / 1000) 0 s2 (by omega) ?_ (fun τ hτ x3 ex3 => ?_)⟩
    · have ag : ∀ a b, ¬ (a = k ∧ b = 4) → s2 a b = σ a b := fun a b z => by rw [e2, up_ne _ _ z, up_ne _ _ z]
      refine h.sc (fun s hs => ?_) (by rw [ag 0 1 (by omega)]; exact a5) (by rw [ag 0 2 (by omega)]; exact a6) (by rw [ag 2 4 (by omega)]; exact a7) (fun a b z1 z2 z3 => ag a b (by omega))
      obtain ⟨b1, b2, b3⟩ := a4 s hs
      refine ⟨by rw [ag _ _ (by omega)]; exact b1, by rw [ag _ _ (by omega)]; exact b2, ?_⟩
      by_cases es : s = i
      · subst es; rw [upd_s, ← ek, e2, up_self]
      · rw [upd_n _ es, ag _ _ (by omega)]; exact b3
    · rw [ex3, nI_1]
      exact hstep τ hτ
def pF (T : Tk) : Tk := if 0 < T 4 - 1 then sT T 4 (T 4 - 1) else sT (sT T 4 (T 4 - 1)) 3 0
theorem pass8 {σ0 : ST} {st we : Nat → Int32} {lo br ba : Int32} {K : ST → Prop} {Q : ST → Prop} : ∀ (B A : List Tk) (σ : ST), (∀ T, T ∈ B → ∃ q, q < 10 ∧ T 1 = nI q) → V8 σ0 (A ++ B) st we lo br ba σ → (∀ τ, V8 σ0 (A ++ B.map pF) st we lo br ba τ → K τ) → w_X8_passAnHour_L2 K Q (B.length + 1) σ (nI A.length) := by
  intro B
  induction B with
  | nil =>
    intro A σ _ h hK
    refine ⟨fun _ => hK σ h, fun z => absurd ?_ z⟩
    rw [h.2.1, List.append_nil]; exact Int32.le_refl _
  | cons T B ih =>
    intro A σ hp h hK
    obtain ⟨b1, b2, b3, b4⟩ := at3 h
    obtain ⟨q, hq, hT⟩ := hp T List.mem_cons_self
    obtain ⟨hl, p, hpp, e3, hr, nx⟩ := id h.row
    refine ⟨fun z => absurd z b3, fun _ => ⟨b1, b2, fun k1 ek1 s1 e1 => ?_⟩⟩
    rw [b4] at ek1
    have ek := ek1
    rw [e3, nI_clamp (show p < 2 ^ 31 by omega)] at ek
    have h4 : s1 k1 4 = T 4 - 1 := by rw [e1, up_self, ek, hr 4 (by omega)]
    have h1 : V8 σ0 (A ++ sT T 4 (T 4 - 1) :: B) st we lo br ba s1 := by
      obtain ⟨a5, a6, a7, a8⟩ := h.2.2.2.2
      refine nx _ st we lo br ba s1 (fun j hj => ?_) (fun s hs => ?_) (by rw [e1, up_ne _ _ (by omega)]; exact a5) (by rw [e1, up_ne _ _ (by omega)]; exact a6) (by rw [e1, up_ne _ _ (by omega)]; exact a7) (fun a b z1 z2 z3 z4 => by rw [e1, up_ne _ _ (by omega)])
      · by_cases ej : j = 4
        · subst ej; rw [← ek, h4]; rfl
        · rw [e1, up_ne _ _ (by omega), hr j hj]; exact (if_neg ej).symm
      · rw [e1, up_ne _ _ (by omega), up_ne _ _ (by omega), up_ne _ _ (by omega), sm_mid, show hc s (sT T 4 (T 4 - 1)) = hc s T from rfl, ← sm_mid]; exact h.2.2.2.1 s hs
    rw [h4]
    refine ⟨fun c x1 ex1 => ?_, fun c => e8 h1 hq hT (by rw [e1, up_ne _ _ (by omega)]; exact ek1) (fun τ hτ x1 ex1 => ?_)⟩
    · rw [ex1, nI_1]
      have h2 : V8 σ0 ((A ++ [sT T 4 (T 4 - 1)]) ++ B) st we lo br ba s1 := by rw [List.append_assoc]; exact h1
      have := ih _ s1 (fun U hU => hp U (List.mem_cons_of_mem _ hU)) h2 (fun τ hτ => hK τ (by
        rw [List.append_assoc] at hτ
        have e : pF T = sT T 4 (T 4 - 1) := if_pos c
        rw [List.map_cons, e]; exact hτ))
      rw [List.length_append] at this
      exact this
    · rw [ex1, nI_1]
      have h2 : V8 σ0 ((A ++ [sT (sT T 4 (T 4 - 1)) 3 0]) ++ B) st we lo br ba τ := by rw [List.append_assoc]; exact hτ
      have := ih _ τ (fun U hU => hp U (List.mem_cons_of_mem _ hU)) h2 (fun τ hτ => hK τ (by
        rw [List.append_assoc] at hτ
        have e : pF T = sT (sT T 4 (T 4 - 1)) 3 0 := if_neg c
        rw [List.map_cons, e]; exact hτ))
      rw [List.length_append] at this
      exact this
/-- dropEnded: A stands below k, B from i on -/
def Dp (σb : ST) (A B : List Tk) (i : Nat) (σ : ST) : Prop := A.length ≤ i ∧ (∃ pi : Nat → Nat, (∀ i, i < 30 → pi i < 30 ∧ σ 3 i = nI (pi i)) ∧ (∀ i j, i < 30 → j < 30 → pi i = pi j → i = j) ∧ (∀ a T, A[a]? = some T → ∀ j, j < 7 → σ (33 + pi a) j = T j) ∧ ∀ b T, B[b]? = some T → ∀ j, j < 7 → σ (33 + pi (i + b)) j = T j) ∧ ∀ a b, a ≠ 3 → σ a b = σb a b
theorem drop8 {σb : ST} {t : Nat} (ht : t ≤ 30) (h21 : σb 2 1 = nI t) {K : ST → Int32 → Prop} {Q : ST → Prop} : ∀ (B A : List Tk) (i : Nat) (σ : ST), i + B.length = t → Dp σb A B i σ → (∀ τ j, Dp σb (A ++ B.filter lv) [] j τ → K τ (nI (A ++ B.filter lv).length)) → w_X7_dropEnded_L4 K Q (B.length + 1) σ (nI A.length) (nI i) := by
  intro B
  induction B with
  | nil =>
    intro A i σ hi h hK
    obtain rfl : i = t := by simpa using hi
    refine ⟨fun _ => ?_, fun z => absurd ?_ z⟩
    · have := hK σ i (by rw [List.filter_nil, List.append_nil]; exact h)
      rw [List.filter_nil, List.append_nil] at this
      exact this
    · rw [h.2.2 2 1 (by omega), h21]; exact Int32.le_refl _
  | cons T B ih =>
    intro A i σ hi h hK
    rw [List.length_cons] at hi
    obtain ⟨hl, ⟨pi, p1, p2, p3, p4⟩, ag⟩ := h
    have hci := nI_clamp (show i < 2 ^ 31 by omega)
    have hck := nI_clamp (show A.length < 2 ^ 31 by omega)
    have hv2 : vp_in (nI i) 30 := vp_in_nI (by omega) (by decide)
    have hv1 : vp_in (nI A.length) 30 := vp_in_nI (by omega) (by decide)
    have pI := p1 i (by omega)
    have pK := p1 A.length (by omega)
    have hr := p4 0 T rfl
    rw [Nat.add_zero] at hr
    refine ⟨fun z => absurd z (by rw [ag 2 1 (by omega), h21]; exact nI_ge (by omega) (by omega)), fun _ => ⟨hv2, ?_⟩⟩
    rw [hci, pI.2, nI_clamp (show pi i < 2 ^ 31 by omega)]
    refine ⟨pI.1, fun k1 ek1 => ?_⟩
    rw [show σ k1 3 = T 3 by rw [ek1]; exact hr 3 (by omega)]
    refine ⟨fun c x1 ex1 => ?_, fun c => ⟨hv1, ?_⟩⟩
    · rw [ex1, nI_1]
      have e : ¬ lv T = true := by unfold lv; simpa using c
      refine ih A (i + 1) σ (by omega) ⟨by omega, ⟨pi, p1, p2, p3, fun b U hU j hj => ?_⟩, ag⟩ (fun τ j hτ => ?_)
      · rw [show i + 1 + b = i + (b + 1) by omega]
        exact p4 (b + 1) U hU j hj
      · have := hK τ j (by rw [List.filter_cons_of_neg e]; exact hτ)
        rw [List.filter_cons_of_neg e] at this
        exact this
    · rw [hck, pK.2, nI_clamp (show pi A.length < 2 ^ 31 by omega)]
      refine ⟨pK.1, fun k2 ek2 => ⟨hv2, fun s1 e1 => ⟨hv1, fun s2 e2 x2 ex2 x3 ex3 => ?_⟩⟩⟩
      rw [ex2, ex3, nI_1, nI_1]
      have e : lv T = true := by unfold lv; simpa using c
      have hk2 : k2 - 33 = pi A.length := by omega
      have hk1 : k1 - 33 = pi i := by omega
      rw [hk2] at e1
      rw [hk1] at e2
      have ag2 : ∀ a b, a ≠ 3 → s2 a b = σ a b := fun a b z => by rw [e2, up_ne _ _ (by omega), e1, up_ne _ _ (by omega)]
      have := ih (A ++ [T]) (i + 1) s2 (by omega) ?_ (fun τ j hτ => ?_)
      · rw [List.length_append] at this
        exact this
      · refine ⟨by rw [List.length_append]; simp; omega, ⟨fun x => if x = A.length then pi i else if x = i then pi A.length else pi x, fun x hx => ?_, fun x y hx hy => ?_, fun a U hU j hj => ?_, fun b U hU j hj => ?_⟩, fun a b z => by rw [ag2 a b z]; exact ag a b z⟩
        · by_cases x1 : x = A.length
          · subst x1; simp only [if_true]; exact ⟨pI.1, by rw [e2, up_self]⟩
          · by_cases x2 : x = i
            · subst x2; simp only [x1, if_true, if_false]; exact ⟨pK.1, by rw [e2, up_ne _ _ (by omega), e1, up_self]⟩
            · simp only [x1, x2, if_false]; rw [e2, up_ne _ _ (by omega), e1, up_ne _ _ (by omega)]; exact p1 x hx
        · have hAi : pi A.length = pi i → A.length = i := p2 _ _ (by omega) (by omega)
          have hxA : pi x = pi A.length → x = A.length := p2 _ _ hx (by omega)
          have hxi : pi x = pi i → x = i := p2 _ _ hx (by omega)
          have hyA : pi y = pi A.length → y = A.length := p2 _ _ hy (by omega)
          have hyi : pi y = pi i → y = i := p2 _ _ hy (by omega)
          have hxy := p2 x y hx hy
          intro e
          by_cases x1 : x = A.length
          · by_cases y1 : y = A.length
            · omega
            · by_cases y2 : y = i
              · simp only [x1, y1, y2, if_true, if_false] at e
                have := hAi (by rw [e, if_neg (by omega)])
                omega
              · simp only [x1, y1, y2, if_true, if_false] at e
                exact absurd (hyi e.symm) y2
          · by_cases x2 : x = i
            · by_cases y1 : y = A.length
              · simp only [x1, y1, if_true, if_false] at e
                rw [if_pos x2] at e
                have := hAi e
                omega
              · by_cases y2 : y = i
                · omega
                · simp only [x1, y1, y2, if_false] at e
                  rw [if_pos x2] at e
                  exact absurd (hyA e.symm) y1
            · by_cases y1 : y = A.length
              · simp only [x1, x2, y1, if_true, if_false] at e
                exact absurd (hxi e) x2
              · by_cases y2 : y = i
                · simp only [x1, x2, y1, y2, if_false, if_true] at e
                  rw [if_neg (by omega)] at e
                  exact absurd (hxA e) x1
                · simp only [x1, x2, y1, y2, if_false] at e
                  exact hxy e
        · have ha := (List.getElem?_eq_some_iff.mp hU).1
          rw [List.length_append, List.length_singleton] at ha
          rw [ag2 _ _ (by omega)]
          by_cases a1 : a = A.length
          · subst a1
            rw [get_mid] at hU
            injection hU with hU
            simp only [if_true]
            rw [← hU]
            exact hr j hj
          · rw [List.getElem?_append_left (by omega)] at hU
            simp only [a1, if_false]
            rw [if_neg (by omega)]
            exact p3 a U hU j hj
        · simp only [show ¬ i + 1 + b = A.length by omega, show ¬ i + 1 + b = i by omega, if_false]
          rw [ag2 _ _ (by omega), show i + 1 + b = i + (b + 1) by omega]
          exact p4 (b + 1) U hU j hj
      · have := hK τ j (by rw [List.filter_cons_of_pos e]; rw [List.append_assoc] at hτ; exact hτ)
        rw [List.filter_cons_of_pos e] at this
        rw [List.append_assoc]
        exact this
theorem drop8' {σ0 : ST} {L : List Tk} {st we : Nat → Int32} {lo br ba : Int32} {σ : ST} (hd : dz L) (h : V8 σ0 L st we lo br ba σ) {Q : ST → Prop} (hQ : ∀ τ, V8 σ0 (L.filter lv) st we lo br ba τ → Q τ) : w_X7_dropEnded σ Q := by
  obtain ⟨a1, a2, ⟨pi, p1, p2, p3⟩, a4, a5, a6, a7, a8⟩ := h
  refine ⟨L.length + 1, drop8 (σb := σ) a1 a2 L [] 0 σ (by simp) ⟨by simp, ⟨pi, p1, p2, fun a T hT => absurd hT (by simp), fun b T hT => by rw [Nat.zero_add]; exact p3 b T hT⟩, fun a b _ => rfl⟩ (fun τ j hτ s4 e4 => hQ s4 ?_)⟩
  rw [List.nil_append] at hτ e4
  obtain ⟨-, ⟨qi, q1, q2, q3, -⟩, ag⟩ := hτ
  have ag4 : ∀ a b, a ≠ 3 → ¬ (a = 2 ∧ b = 1) → s4 a b = σ a b := fun a b z1 z2 => by rw [e4, up_ne _ _ z2]; exact ag a b z1
  refine ⟨Nat.le_trans (List.length_filter_le _ _) a1, by rw [e4, up_self], ⟨qi, fun i hi => ⟨(q1 i hi).1, by rw [e4, up_ne _ _ (by omega)]; exact (q1 i hi).2⟩, q2, fun i T hT j hj => ?_⟩, fun s hs => ?_, by rw [ag4 0 1 (by omega) (by omega)]; exact a5, by rw [ag4 0 2 (by omega) (by omega)]; exact a6, by rw [ag4 2 4 (by omega) (by omega)]; exact a7, fun a b hab => ?_⟩
  · rw [e4, up_ne _ _ (by omega)]; exact q3 i T hT j hj
  · rw [ag4 _ _ (by omega) (by omega), ag4 _ _ (by omega) (by omega), ag4 _ _ (by omega) (by omega), hs_lv hd]; exact a4 s hs
  · rw [ag4 a b (by omega) (by omega)]; exact a8 a b hab
