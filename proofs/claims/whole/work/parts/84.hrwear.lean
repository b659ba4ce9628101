/-! hour: the reference's wear, an hour passes -/
def tok (n e : Nat) (T : Tk) : Prop := nn (T 0) ∧ N (T 0) < e ∧ (∃ p, p < n ∧ T 1 = nI p) ∧ nn (T 3) ∧ 1 ≤ N (T 3) ∧ N (T 3) ≤ 100 ∧ nn (T 4) ∧ 1 ≤ N (T 4) ∧ N (T 4) ≤ 12
def wf (n e k : Nat) (L : List Tk) (st : Nat → Int32) (lo br : Int32) : Prop := (∀ T, T ∈ L → tok n e T) ∧ (L.map (fun T => N (T 0))).Pairwise (fun a b => a < b) ∧ (∀ s, s < 10 → nn (st s) ∧ hN s L ≤ N (st s)) ∧ nn lo ∧ nn br ∧ k + N lo + N br + sumN (fun s => N (st s)) 10 ≤ 9000
theorem pos_of {x : Int32} (h : nn x) (h1 : 1 ≤ N x) : 0 < x := by
  rw [Int32.lt_iff_toInt_lt, nn_int h, k32_0]
  omega
theorem live_all {n e k : Nat} {L : List Tk} {st : Nat → Int32} {lo br : Int32} (h : wf n e k L st lo br) : L.filter lv = L := by
  rw [List.filter_eq_self]
  intro T hT
  obtain ⟨-, -, -, h1, h2, -⟩ := h.1 T hT
  exact decide_eq_true (pos_of h1 h2)
theorem one_N : N (1 : Int32) = 1 := N_nI (m := 1) (by decide)
theorem one_nn : nn (1 : Int32) := nn_nI (m := 1) (by decide)
theorem wf_dec {n e k s : Nat} {L L2 : List Tk} {st : Nat → Int32} {lo br : Int32} (h : wf n e k L st lo br) (hs : s < 10) (h1 : 1 ≤ N (st s)) (ht : ∀ T, T ∈ L2 → tok n e T) (hp : (L2.map (fun T => N (T 0))).Pairwise (fun a b => a < b)) (hh : ∀ i, i < 10 → i ≠ s → hN i L2 ≤ hN i L) (hhs : hN s L2 ≤ N (st s) - 1) : wf n e k L2 (upd st s (st s - 1)) lo (br + 1) := by
  obtain ⟨a1, a2, a3, a4, a5, a6⟩ := h
  have w1 := nn_sub (a3 s hs).1 one_nn (by rw [one_N]; exact h1)
  rw [one_N] at w1
  have hle : N (st s) ≤ sumN (fun s => N (st s)) 10 := sumN_le (f := fun s => N (st s)) hs
  have w2 := nn_add a5 one_nn (by rw [one_N]; omega)
  rw [one_N] at w2
  refine ⟨ht, hp, fun i hi => ?_, a4, w2.1, ?_⟩
  · by_cases es : i = s
    · subst es; rw [upd_s]; exact ⟨w1.1, by rw [w1.2]; exact hhs⟩
    · rw [upd_n _ es]; exact ⟨(a3 i hi).1, Nat.le_trans (hh i hi es) (a3 i hi).2⟩
  · have := sumN_upd (f := fun s => N (st s)) (g := fun i => N (upd st s (st s - 1) i)) hs (fun i _ hij => by rw [upd_n _ hij])
    simp only [upd_s] at this
    rw [w1.2] at this
    rw [w2.2]
    omega
theorem free_e {n e k s : Nat} {L : List Tk} {st : Nat → Int32} {lo br : Int32} (h : wf n e k L st lo br) (hs : s < 10) : st s - sm (hc s) L = nI (N (st s) - hN s L) ∧ N (st s) ≤ 9000 := by
  obtain ⟨a1, a2, a3, a4, a5, a6⟩ := h
  have hle : N (st s) ≤ sumN (fun s => N (st s)) 10 := sumN_le (f := fun s => N (st s)) hs
  refine ⟨?_, by omega⟩
  rw [hs_hN s L (fun T hT => (a1 T hT).2.2.2.1), ← pk_sub (a3 s hs).2, ← (a3 s hs).1]
theorem brk_a {n e k s : Nat} {W : Wk} {lo : Int32} (h : wf n e k W.1 W.2.1 lo W.2.2) (hs : s < 10) (hf : hN s W.1 < N (W.2.1 s)) : fl (brk s W) = (W.1, upd W.2.1 s (W.2.1 s - 1), W.2.2 + 1) := by
  obtain ⟨L, st, br⟩ := W
  simp only at h hf ⊢
  have hfe := free_e h hs
  have e1 : ¬ st s = 0 := fun z => by
    have : N (st s) = 0 := by rw [z]; rfl
    omega
  have e2 : ¬ st s - sm (hc s) L = 0 := by
    rw [hfe.1]
    exact nI_ne0 (by omega) (by omega)
  unfold brk fl
  simp only [e1, e2, if_false, if_true, not_false_eq_true]
  rw [live_all h]
theorem brk_b {n e k s : Nat} {W : Wk} {lo : Int32} (h : wf n e k W.1 W.2.1 lo W.2.2) (hs : s < 10) (hf : ¬ hN s W.1 < N (W.2.1 s)) (hn : ∀ T, T ∈ W.1 → ¬ T 1 = nI s) : fl (brk s W) = W := by
  obtain ⟨L, st, br⟩ := W
  simp only at h hf hn ⊢
  have hfe := free_e h hs
  have e2 : ¬ ¬ st s - sm (hc s) L = 0 := by
    rw [hfe.1, show N (st s) - hN s L = 0 by omega]
    exact fun z => z rfl
  have hld : ld s L = none := ld_none (fun T hT z => hn T hT z.1)
  have hb : brk s (L, st, br) = (L, st, br) := by
    unfold brk
    simp only [e2, if_false, hld]
    exact ite_self _
  rw [hb]
  unfold fl
  simp only
  rw [live_all h]
theorem brk_c {n e k s : Nat} {A : List Tk} {T : Tk} {B : List Tk} {st : Nat → Int32} {br lo : Int32} (h : wf n e k (A ++ T :: B) st lo br) (hs : s < 10) (hf : ¬ hN s (A ++ T :: B) < N (st s)) (hT : T 1 = nI s) (hB : ∀ U, U ∈ B → ¬ U 1 = nI s) : fl (brk s (A ++ T :: B, st, br)) = ((A ++ sT T 3 (T 3 - 1) :: B).filter lv, upd st s (st s - 1), br + 1) ∧ 1 ≤ N (st s) := by
  have hTm : T ∈ A ++ T :: B := List.mem_append_right _ List.mem_cons_self
  obtain ⟨-, -, -, t3, t4, -⟩ := h.1 T hTm
  have hm := hN_mem hT hTm
  have hfe := free_e h hs
  have h1 : 1 ≤ N (st s) := by have := (h.2.2.1 s hs).2; omega
  have e1 : ¬ st s = 0 := fun z => by
    have : N (st s) = 0 := by rw [z]; rfl
    omega
  have e2 : ¬ ¬ st s - sm (hc s) (A ++ T :: B) = 0 := by
    rw [hfe.1, show N (st s) - hN s (A ++ T :: B) = 0 by omega]
    exact fun z => z rfl
  refine ⟨?_, h1⟩
  unfold brk fl
  simp only [e1, e2, if_false, ld_some ⟨hT, pos_of t3 t4⟩ (fun U hU z => hB U hU z.1) A]
theorem fil_c {n e k : Nat} {A : List Tk} {T : Tk} {B : List Tk} {st : Nat → Int32} {br lo : Int32} (h : wf n e k (A ++ T :: B) st lo br) : (A ++ sT T 3 (T 3 - 1) :: B).filter lv = if T 3 - 1 = 0 then A ++ B else A ++ sT T 3 (T 3 - 1) :: B := by
  have hTm : T ∈ A ++ T :: B := List.mem_append_right _ List.mem_cons_self
  obtain ⟨-, -, -, t3, t4, -⟩ := h.1 T hTm
  have hl := live_all h
  have hA : ∀ X, X ∈ A → lv X = true := fun X hX => (List.filter_eq_self.mp hl) X (List.mem_append_left _ hX)
  have hB : ∀ X, X ∈ B → lv X = true := fun X hX => (List.filter_eq_self.mp hl) X (List.mem_append_right _ (List.mem_cons_of_mem _ hX))
  rw [List.filter_append, List.filter_eq_self.mpr hA]
  have w := nn_sub t3 one_nn (by rw [one_N]; exact t4)
  rw [one_N] at w
  by_cases e : T 3 - 1 = 0
  · rw [if_pos e, List.filter_cons_of_neg (by
      unfold lv
      rw [show (sT T 3 (T 3 - 1)) 3 = T 3 - 1 from rfl, e]
      decide), List.filter_eq_self.mpr hB]
  · rw [if_neg e, List.filter_cons_of_pos (by
      unfold lv
      rw [show (sT T 3 (T 3 - 1)) 3 = T 3 - 1 from rfl]
      refine decide_eq_true (pos_of w.1 ?_)
      rcases Nat.eq_zero_or_pos (N (T 3 - 1)) with z | z
      · exact absurd (by rw [w.1, z]; rfl) e
      · exact z), List.filter_eq_self.mpr hB]
theorem last_or {s : Nat} : ∀ L : List Tk, (∀ T, T ∈ L → ¬ T 1 = nI s) ∨ ∃ A T B, L = A ++ T :: B ∧ T 1 = nI s ∧ ∀ U, U ∈ B → ¬ U 1 = nI s := by
  intro L
  induction L with
  | nil => exact Or.inl (fun T h => absurd h (by simp))
  | cons X L ih =>
    rcases ih with h | ⟨A, T, B, h1, h2, h3⟩
    · by_cases e : X 1 = nI s
      · exact Or.inr ⟨[], X, L, rfl, e, h⟩
      · refine Or.inl (fun T hT => ?_)
        rcases List.mem_cons.mp hT with z | z
        · rw [z]; exact e
        · exact h T z
    · exact Or.inr ⟨X :: A, T, B, by rw [h1]; rfl, h2, h3⟩
theorem hN_mid (s : Nat) (A : List Tk) (T : Tk) (B : List Tk) : hN s (A ++ T :: B) = hN s (A ++ B) + (if T 1 = nI s then N (T 3) else 0) := by
  rw [hN_app, hN_app]
  show hN s A + ((if T 1 = nI s then N (T 3) else 0) + hN s B) = _
  omega
theorem wf_brk {n e k s : Nat} {W : Wk} {lo : Int32} (h : wf n e k W.1 W.2.1 lo W.2.2) (hs : s < 10) : wf n e k (fl (brk s W)).1 (fl (brk s W)).2.1 lo (fl (brk s W)).2.2 := by
  by_cases hf : hN s W.1 < N (W.2.1 s)
  · rw [brk_a h hs hf]
    exact wf_dec h hs (by omega) h.1 h.2.1 (fun i _ _ => Nat.le_refl _) (by simp only; omega)
  · rcases last_or (s := s) W.1 with hn | ⟨A, T, B, hL, hT, hB⟩
    · rw [brk_b h hs hf hn]; exact h
    · obtain ⟨L, st, br⟩ := W
      simp only at h hf hL ⊢
      subst hL
      obtain ⟨e1, e2⟩ := brk_c h hs hf hT hB
      rw [e1]
      simp only
      have hTm : T ∈ A ++ T :: B := List.mem_append_right _ List.mem_cons_self
      obtain ⟨t0, t1, t2, t3, t4, t5, t6⟩ := h.1 T hTm
      have w := nn_sub t3 one_nn (by rw [one_N]; exact t4)
      rw [one_N] at w
      refine wf_dec h hs e2 (fun U hU => ?_) ?_ (fun i hi his => ?_) ?_
      · obtain ⟨u1, u2⟩ := List.mem_filter.mp hU
        rcases List.mem_append.mp u1 with u | u
        · exact h.1 U (List.mem_append_left _ u)
        · rcases List.mem_cons.mp u with u | u
          · subst u
            refine ⟨t0, t1, t2, w.1, ?_, ?_, t6⟩
            · rcases Nat.eq_zero_or_pos (N (T 3 - 1)) with z | z
              · have : T 3 - 1 = 0 := by rw [w.1, z]; rfl
                unfold lv at u2
                rw [show (sT T 3 (T 3 - 1)) 3 = T 3 - 1 from rfl, this] at u2
                exact absurd u2 (by decide)
              · exact z
            · have : N ((sT T 3 (T 3 - 1)) 3) = N (T 3) - 1 := w.2
              omega
          · exact h.1 U (List.mem_append_right _ (List.mem_cons_of_mem _ u))
      · refine List.Pairwise.sublist (List.Sublist.map _ List.filter_sublist) ?_
        have : (A ++ sT T 3 (T 3 - 1) :: B).map (fun T => N (T 0)) = (A ++ T :: B).map (fun T => N (T 0)) := by
          rw [List.map_append, List.map_append]; rfl
        rw [this]; exact h.2.1
      · refine Nat.le_trans (hN_filter i lv _) ?_
        rw [hN_mid, hN_mid]
        have hne : ¬ T 1 = nI i := by rw [hT, nI_eq (by omega) (by omega)]; omega
        rw [if_neg hne, if_neg (show ¬ (sT T 3 (T 3 - 1)) 1 = nI i from hne)]
        exact Nat.le_refl _
      · refine Nat.le_trans (hN_filter s lv _) ?_
        have h5 := (h.2.2.1 s hs).2
        rw [hN_mid] at h5 ⊢
        rw [if_pos hT] at h5
        rw [if_pos (show (sT T 3 (T 3 - 1)) 1 = nI s from hT)]
        have : N ((sT T 3 (T 3 - 1)) 3) = N (T 3) - 1 := w.2
        omega
theorem l35 {σ0 : ST} {L : List Tk} {st we : Nat → Int32} {lo br ba : Int32} {σ : ST} {s : Nat} {K : ST → Int32 → Prop} {Q : ST → Prop} (h : V9 σ0 L st we lo br ba σ)
    (h1 : ∀ A T B, L = A ++ T :: B → T 1 = nI s → (∀ U, U ∈ B → ¬ U 1 = nI s) → K σ (nI A.length)) (h0 : (∀ U, U ∈ L → ¬ U 1 = nI s) → K σ (-1000000)) :
    ∀ (B A : List Tk) (v : Int32), L = A ++ B → ((v = (-1000000) ∧ ∀ U, U ∈ A → ¬ U 1 = nI s) ∨ ∃ A1 T A2, A = A1 ++ T :: A2 ∧ T 1 = nI s ∧ (∀ U, U ∈ A2 → ¬ U 1 = nI s) ∧ v = nI A1.length) → w_X9_tear_L35 (nI s) K Q (B.length + 1) σ v (nI A.length) := by
  intro B
  induction B with
  | nil =>
    intro A v hL hv
    rw [List.append_nil] at hL
    refine ⟨fun _ => ?_, fun z => absurd ?_ z⟩
    · rcases hv with ⟨e, hn⟩ | ⟨A1, T, A2, e1, e2, e3, e4⟩
      · rw [e]; exact h0 (by rw [hL]; exact hn)
      · rw [e4]; exact h1 A1 T A2 (by rw [hL, e1]) e2 e3
    · rw [h.2.1, hL]; exact Int32.le_refl _
  | cons T B ih =>
    intro A v hL hv
    have h' := h
    rw [hL] at h'
    obtain ⟨hl, hr, -⟩ := h'.row
    refine ⟨fun z => absurd z ?_, fun _ => ⟨vp_in_nI hl (by decide), ?_⟩⟩
    · rw [h'.2.1]; exact nI_ge (by simp) (by have := h'.1; omega)
    rw [nI_clamp (show A.length < 2 ^ 31 by omega), show σ 72 A.length = T 1 from hr 1 (by omega)]
    have hL2 : L = (A ++ [T]) ++ B := by rw [hL, List.append_assoc]; rfl
    refine ⟨fun c x ex => ?_, fun c x ex => ?_⟩
    · rw [ex, nI_1]
      have := ih (A ++ [T]) v hL2 ?_
      · rw [List.length_append] at this; exact this
      · rcases hv with ⟨e, hn⟩ | ⟨A1, X, A2, e1, e2, e3, e4⟩
        · refine Or.inl ⟨e, fun U hU => ?_⟩
          rcases List.mem_append.mp hU with z | z
          · exact hn U z
          · rw [List.mem_singleton.mp z]; exact c
        · refine Or.inr ⟨A1, X, A2 ++ [T], by rw [e1, List.append_assoc]; rfl, e2, fun U hU => ?_, e4⟩
          rcases List.mem_append.mp hU with z | z
          · exact e3 U z
          · rw [List.mem_singleton.mp z]; exact c
    · rw [ex, nI_1]
      have := ih (A ++ [T]) (nI A.length) hL2 (Or.inr ⟨A, T, [], rfl, c, fun U hU => absurd hU (by simp), rfl⟩)
      rw [List.length_append] at this
      exact this
theorem tear9 {σ0 : ST} {n e k : Nat} {W : Wk} {we : Nat → Int32} {lo ba : Int32} {σ : ST} {s : Nat} (hs : s < 10) (hw : wf n e k W.1 W.2.1 lo W.2.2) (h : V9 σ0 W.1 W.2.1 we lo W.2.2 ba σ) {Q : ST → Prop} (hQ : ∀ τ, V9 σ0 (fl (brk s W)).1 (fl (brk s W)).2.1 we lo (fl (brk s W)).2.2 ba τ → Q τ) : w_X9_tear σ (nI s) Q := by
  have hv : vp_in (nI s) 10 := vp_in_nI hs (by decide)
  have a4 := h.2.2.2.1
  obtain ⟨a5, a6, a7, a8⟩ := h.2.2.2.2
  obtain ⟨c1, c2, c3⟩ := a4 s hs
  have hfe := free_e hw hs
  have h66 : σ 66 s = nI (N (W.2.1 s) - hN s W.1) := by rw [← hfe.1, ← c1, ← c2, add_sub_r]
  unfold w_X9_tear
  rw [nI_clamp (show s < 2 ^ 31 by omega)]
  refine ⟨hv, fun c => ?_, fun c => ⟨hv, hv, fun s6 e6 s7 e7 => hQ s7 ?_⟩⟩
  · have hf : ¬ hN s W.1 < N (W.2.1 s) := fun z => by
      rw [h66] at c
      exact nI_nle (by omega) (by omega) c
    refine ⟨W.1.length + 1, ?_⟩
    refine l35 (s := s) h ?_ ?_ W.1 [] (-1000000) rfl (Or.inl ⟨rfl, fun U hU => absurd hU (by simp)⟩)
    · intro A T B hL hT hB
      obtain ⟨L, st, br⟩ := W
      simp only at h hw hL hf hfe h66 a4 a6 c1 c2
      subst hL
      obtain ⟨e1, e2⟩ := brk_c hw hs hf hT hB
      rw [e1, fil_c hw] at hQ
      simp only at hQ
      obtain ⟨hl, hr, nx⟩ := h.row
      have hv30 : vp_in (nI A.length) 30 := vp_in_nI hl (by decide)
      rw [nI_clamp (show A.length < 2 ^ 31 by omega)]
      refine ⟨fun z => absurd z (nI_none (by omega)), fun _ => ⟨hv30, hv30, fun s2 d2 => ⟨hv, hv, fun s3 d3 s4 d4 => ⟨hv30, ?_⟩⟩⟩⟩
      have h73 : σ 73 A.length = T 3 := hr 3 (by omega)
      have ag : ∀ a b, ¬ (a = 73 ∧ b = A.length) → ¬ (a = 67 ∧ b = s) → ¬ (a = 63 ∧ b = 3) → s4 a b = σ a b := fun a b z1 z2 z3 => by rw [d4, up_ne _ _ z3, d3, up_ne _ _ z2, d2, up_ne _ _ z1]
      have f73 : s4 73 A.length = T 3 - 1 := by rw [d4, up_ne _ _ (by omega), d3, up_ne _ _ (by omega), d2, up_self, h73]
      have h4 : V9 σ0 (A ++ sT T 3 (T 3 - 1) :: B) (upd st s (st s - 1)) we lo (br + 1) ba s4 := by
        refine nx _ _ we lo _ ba s4 (fun j hj => ?_) (fun i hi => ?_) (by rw [ag _ _ (by omega) (by omega) (by omega)]; exact a5) (by rw [d4, up_self, d3, up_ne _ _ (by omega), d2, up_ne _ _ (by omega), a6]) (by rw [ag _ _ (by omega) (by omega) (by omega)]; exact a7) (fun a b z1 z2 z3 => ag a b (by omega) (by omega) (by omega))
        · by_cases ej : j = 3
          · subst ej; exact f73
          · have hrc := rc_b j hj
            have hne : rc j ≠ 73 := by
              have : ∀ j, j < 7 → rc j = 73 → j = 3 := by decide
              exact fun z => ej (this j hj z)
            rw [ag _ _ (by omega) (by omega) (by omega), hr j hj]; exact (if_neg ej).symm
        · obtain ⟨b1, b2, b3⟩ := a4 i hi
          rw [sm_mid] at b2 ⊢
          rw [ag 68 i (by omega) (by omega) (by omega), ag 66 i (by omega) (by omega) (by omega)]
          by_cases es : i = s
          · subst es
            have f67 : s4 67 i = σ 67 i - 1 := by rw [d4, up_ne _ _ (by omega), d3, up_self, d2, up_ne _ _ (by omega)]
            rw [f67, upd_s]
            refine ⟨?_, ?_, b3⟩
            · rw [← b1, Int32.sub_eq_add_neg, ← Int32.add_assoc, ← Int32.sub_eq_add_neg]
            · rw [b2]
              unfold hc
              rw [if_pos hT, if_pos (show (sT T 3 (T 3 - 1)) 1 = nI i from hT)]
              show _ = _ + (T 3 - 1)
              rw [Int32.sub_eq_add_neg, Int32.sub_eq_add_neg, Int32.add_assoc]
          · rw [ag 67 i (by omega) (by omega) (by omega), upd_n _ es]
            refine ⟨b1, ?_, b3⟩
            rw [b2]
            unfold hc
            have hne : ¬ T 1 = nI i := by rw [hT, nI_eq (by omega) (by omega)]; omega
            rw [if_neg hne, if_neg (show ¬ (sT T 3 (T 3 - 1)) 1 = nI i from hne)]
      rw [f73]
      refine ⟨fun c0 => hQ s4 (by rw [if_neg c0]; exact h4), fun c0 => ?_⟩
      rw [if_pos c0] at hQ
      exact e9 h4 hs hT hQ
    · intro hn
      rw [brk_b hw hs hf hn] at hQ
      exact ⟨fun _ => hQ σ h, fun z => absurd rfl z⟩
  · have hf : hN s W.1 < N (W.2.1 s) := by
      refine Nat.lt_of_not_le (fun z => c ?_)
      rw [h66, show N (W.2.1 s) - hN s W.1 = 0 by omega]
      exact Int32.le_refl _
    rw [brk_a hw hs hf]
    have ag : ∀ a b, ¬ (a = 66 ∧ b = s) → ¬ (a = 63 ∧ b = 3) → s7 a b = σ a b := fun a b z1 z2 => by rw [e7, up_ne _ _ z2, e6, up_ne _ _ z1]
    refine h.sc (fun i hi => ?_) (by rw [ag _ _ (by omega) (by omega)]; exact a5) (by rw [e7, up_self, e6, up_ne _ _ (by omega), a6]) (by rw [ag _ _ (by omega) (by omega)]; exact a7) (fun a b z1 z2 => ag a b (by omega) (by omega))
    obtain ⟨b1, b2, b3⟩ := a4 i hi
    rw [ag 67 i (by omega) (by omega), ag 68 i (by omega) (by omega)]
    refine ⟨?_, b2, b3⟩
    simp only
    by_cases es : i = s
    · subst es
      rw [upd_s, e7, up_ne _ _ (by omega), e6, up_self, ← b1, ← mv1, ← Int32.sub_eq_add_neg]
    · rw [upd_n _ es, ag 66 i (by omega) (by omega)]; exact b1
theorem it_s (b : Wk → Wk) (k : Nat) (W : Wk) : it b (k + 1) W = it b k (b W) := rfl
theorem w380 {σ0 : ST} {n e k0 : Nat} {we : Nat → Int32} {lo ba v4 : Int32} {s : Nat} (hs : s < 10) {K : ST → Prop} {Q : Int32 → ST → Prop} : ∀ (k m : Nat) (W : Wk) (σ : ST), m < 2 ^ 31 → m / 1000 = k → wf n e k0 W.1 W.2.1 lo W.2.2 → V9 σ0 W.1 W.2.1 (upd we s (nI m)) lo W.2.2 ba σ → (∀ τ, wf n e k0 (it (fun w => fl (brk s w)) k W).1 (it (fun w => fl (brk s w)) k W).2.1 lo (it (fun w => fl (brk s w)) k W).2.2 → V9 σ0 (it (fun w => fl (brk s w)) k W).1 (it (fun w => fl (brk s w)) k W).2.1 (upd we s (nI (m % 1000))) lo (it (fun w => fl (brk s w)) k W).2.2 ba τ → K τ) → w_X9_hour_L380 v4 (nI s) K Q (k + 1) σ := by
  intro k
  induction k with
  | zero =>
    intro m W σ hm hk hw h hK
    have hm1 : m < 1000 := by omega
    have h68 := (h.2.2.2.1 s hs).2.2
    rw [upd_s] at h68
    refine ⟨vp_in_nI hs (by decide), ?_⟩
    rw [nI_clamp (show s < 2 ^ 31 by omega), h68]
    refine ⟨fun _ => hK σ hw ?_, fun z => absurd ?_ z⟩
    · rw [Nat.mod_eq_of_lt hm1]; exact h
    · exact nI_lt (b := 1000) hm1 (by decide)
  | succ k ih =>
    intro m W σ hm hk hw h hK
    have hm1 : 1000 ≤ m := by omega
    have hv := vp_in_nI hs (show 10 < 2 ^ 31 by decide)
    obtain ⟨a5, a6, a7, a8⟩ := h.2.2.2.2
    have h68 := (h.2.2.2.1 s hs).2.2
    rw [upd_s] at h68
    refine ⟨hv, ?_⟩
    rw [nI_clamp (show s < 2 ^ 31 by omega), h68]
    refine ⟨fun z => absurd z (nI_nlt (b := 1000) hm1 hm), fun _ => ⟨hv, hv, fun s1 e1 => ?_⟩⟩
    rw [show (1000 : Int32) = nI 1000 from rfl, pk_sub hm1] at e1
    have h1 : V9 σ0 W.1 W.2.1 (upd we s (nI (m - 1000))) lo W.2.2 ba s1 := by
      refine h.sc (fun i hi => ?_) (by rw [e1, up_ne _ _ (by omega)]; exact a5) (by rw [e1, up_ne _ _ (by omega)]; exact a6) (by rw [e1, up_ne _ _ (by omega)]; exact a7) (fun a b z1 z2 => by rw [e1, up_ne _ _ (by omega)])
      obtain ⟨b1, b2, b3⟩ := h.2.2.2.1 i hi
      refine ⟨by rw [e1, up_ne _ _ (by omega), up_ne _ _ (by omega)]; exact b1, by rw [e1, up_ne _ _ (by omega)]; exact b2, ?_⟩
      by_cases es : i = s
      · subst es; rw [upd_s, e1, up_self]
      · rw [upd_n _ es, e1, up_ne _ _ (by omega)]; rw [upd_n _ es] at b3; exact b3
    refine tear9 hs hw h1 (fun τ hτ => ih (m - 1000) (fl (brk s W)) τ (by omega) (by omega) (wf_brk hw hs) hτ (fun τ2 w2 h2 => hK τ2 w2 ?_))
    rw [show m % 1000 = (m - 1000) % 1000 by omega]
    exact h2
theorem wear9 {σ0 : ST} {n e k0 sun : Nat} (hn : n ≤ 10) (hsun : sun ≤ 10) (h10 : σ0 63 10 = nI n) {W : Wk} {we : Nat → Int32} {lo ba : Int32} {K : ST → Prop} {Q : Int32 → ST → Prop}
    (hK : ∀ τ, wf n e k0 (wr (fun s w => fl (brk s w)) sun n (W, we)).1.1 (wr (fun s w => fl (brk s w)) sun n (W, we)).1.2.1 lo (wr (fun s w => fl (brk s w)) sun n (W, we)).1.2.2 → (∀ s, s < 10 → nn ((wr (fun s w => fl (brk s w)) sun n (W, we)).2 s) ∧ N ((wr (fun s w => fl (brk s w)) sun n (W, we)).2 s) < 1000) → V9 σ0 (wr (fun s w => fl (brk s w)) sun n (W, we)).1.1 (wr (fun s w => fl (brk s w)) sun n (W, we)).1.2.1 (wr (fun s w => fl (brk s w)) sun n (W, we)).2 lo (wr (fun s w => fl (brk s w)) sun n (W, we)).1.2.2 ba τ → K τ) :
    ∀ (d i : Nat) (σ : ST), i + d = n → wf n e k0 (wr (fun s w => fl (brk s w)) sun i (W, we)).1.1 (wr (fun s w => fl (brk s w)) sun i (W, we)).1.2.1 lo (wr (fun s w => fl (brk s w)) sun i (W, we)).1.2.2 → (∀ s, s < 10 → nn ((wr (fun s w => fl (brk s w)) sun i (W, we)).2 s) ∧ N ((wr (fun s w => fl (brk s w)) sun i (W, we)).2 s) < 1000) → V9 σ0 (wr (fun s w => fl (brk s w)) sun i (W, we)).1.1 (wr (fun s w => fl (brk s w)) sun i (W, we)).1.2.1 (wr (fun s w => fl (brk s w)) sun i (W, we)).2 lo (wr (fun s w => fl (brk s w)) sun i (W, we)).1.2.2 ba σ → w_X9_hour_L352 (nI sun) K Q (d + 1) σ (nI i) := by
  intro d
  induction d with
  | zero =>
    intro i σ hi hw hb h
    obtain rfl : i = n := by omega
    refine ⟨fun _ => hK σ hw hb h, fun z => absurd ?_ z⟩
    rw [h.2.2.2.2.2.2.2 63 10 (by omega), h10]; exact Int32.le_refl _
  | succ d ih =>
    intro i σ hi hw hb h
    have hcl := nI_clamp (show i < 2 ^ 31 by omega)
    have hv := vp_in_nI (show i < 10 by omega) (show 10 < 2 ^ 31 by decide)
    have hstep := fun τ => ih (i + 1) τ (by omega)
    unfold wr at hstep
    simp only at hstep
    generalize wr (fun s w => fl (brk s w)) sun i (W, we) = X at *
    obtain ⟨W1, we1⟩ := X
    simp only at h hw hb hstep
    obtain ⟨g3, g4⟩ := hb i (by omega)
    have g1 := (hw.2.2.1 i (by omega)).1
    have g2 := (free_e hw (show i < 10 by omega)).2
    have a4 := h.2.2.2.1
    obtain ⟨a5, a6, a7, a8⟩ := h.2.2.2.2
    obtain ⟨c1, c2, c3⟩ := a4 i (by omega)
    obtain ⟨w1, w2⟩ := wear_e g4 hsun g2
    refine ⟨fun z => absurd z (by rw [h.2.2.2.2.2.2.2 63 10 (by omega), h10]; exact nI_ge (by omega) (by omega)), fun _ => ⟨hv, hv, hv, ?_⟩⟩
    rw [hcl, c1, c3]
    refine ⟨hv, fun s1 e1 => ?_⟩
    rw [g3, g1, w1] at e1
    generalize hm : N (we1 i) + sun * N (W1.2.1 i) = m at *
    refine ⟨m / 1000 + 1, w380 (n := n) (e := e) (k0 := k0) (σ0 := σ0) (we := we1) (lo := lo) (ba := ba) (show i < 10 by omega) (m / 1000) m W1 s1 (by omega) rfl hw ?_ (fun τ hw2 hτ x ex => ?_)⟩
    · refine h.sc (fun s hs => ?_) (by rw [e1, up_ne _ _ (by omega)]; exact a5) (by rw [e1, up_ne _ _ (by omega)]; exact a6) (by rw [e1, up_ne _ _ (by omega)]; exact a7) (fun a b z1 z2 => by rw [e1, up_ne _ _ (by omega)])
      obtain ⟨b1, b2, b3⟩ := a4 s hs
      refine ⟨by rw [e1, up_ne _ _ (by omega), up_ne _ _ (by omega)]; exact b1, by rw [e1, up_ne _ _ (by omega)]; exact b2, ?_⟩
      by_cases es : s = i
      · subst es; rw [upd_s, e1, up_self]
      · rw [upd_n _ es, e1, up_ne _ _ (by omega)]; exact b3
    · rw [ex, nI_1]
      refine hstep τ hw2 (fun s hs => ?_) hτ
      by_cases es : s = i
      · subst es; rw [upd_s, N_nI (by omega)]; exact ⟨nn_nI (by omega), Nat.mod_lt _ (by decide)⟩
      · rw [upd_n _ es]; exact hb s hs
def d4 (T : Tk) : Tk := sT T 4 (T 4 - 1)
def k4 (T : Tk) : Bool := decide (T 4 ≠ 0)
theorem pass9 {σ0 : ST} {st we : Nat → Int32} {lo br ba : Int32} {K : ST → Prop} {Q : Int32 → ST → Prop} : ∀ (R B : List Tk) (σ : ST), (∀ T, T ∈ R → ∃ q, q < 10 ∧ T 1 = nI q) → V9 σ0 (R.reverse ++ B) st we lo br ba σ → (∀ τ, V9 σ0 ((R.reverse.map d4).filter k4 ++ B) st we lo br ba τ → K τ) → w_X9_hour_L429 K Q (R.length + 1) σ (nI R.length - 1) := by
  intro R
  induction R with
  | nil => intro B σ _ h hK; exact ⟨fun _ => hK σ h, fun z => absurd (by decide) z⟩
  | cons T R ih =>
    intro B σ hp h hK
    rw [rev_i] at h
    obtain ⟨hl, hr, nx⟩ := h.row
    rw [List.length_reverse] at hl hr nx
    obtain ⟨q, hq, hT⟩ := hp T List.mem_cons_self
    have hv30 : vp_in (nI R.length) 30 := vp_in_nI hl (by decide)
    rw [List.length_cons, nI_pred]
    refine ⟨fun z => absurd z (nI_pos (by omega)), fun _ => ⟨hv30, hv30, ?_⟩⟩
    rw [nI_clamp (show R.length < 2 ^ 31 by omega)]
    intro s1 e1
    rw [show σ 74 R.length = T 4 from hr 4 (by omega)] at e1
    refine ⟨hv30, ?_⟩
    rw [show s1 74 R.length = T 4 - 1 by rw [e1, up_self]]
    obtain ⟨a5, a6, a7, a8⟩ := h.2.2.2.2
    have h1 : V9 σ0 (R.reverse ++ d4 T :: B) st we lo br ba s1 := by
      refine nx _ st we lo br ba s1 (fun j hj => ?_) (fun s hs => ?_) (by rw [e1, up_ne _ _ (by omega)]; exact a5) (by rw [e1, up_ne _ _ (by omega)]; exact a6) (by rw [e1, up_ne _ _ (by omega)]; exact a7) (fun a b z1 z2 z3 => by rw [e1, up_ne _ _ (by omega)])
      · by_cases ej : j = 4
        · subst ej; rw [e1]; exact up_self _ _ _ _
        · have hne : rc j ≠ 74 := by
            have : ∀ j, j < 7 → rc j = 74 → j = 4 := by decide
            exact fun z => ej (this j hj z)
          rw [e1, up_ne _ _ (by omega), hr j hj]; exact (if_neg ej).symm
      · rw [e1, up_ne _ _ (by omega), up_ne _ _ (by omega), up_ne _ _ (by omega), sm_mid, show hc s (d4 T) = hc s T from rfl, ← sm_mid]; exact h.2.2.2.1 s hs
    have ef : ((T :: R).reverse.map d4).filter k4 = (R.reverse.map d4).filter k4 ++ [d4 T].filter k4 := by rw [List.reverse_cons, List.map_append, List.filter_append]; rfl
    refine ⟨fun c x ex => ?_, fun c => ?_⟩
    · rw [ex, add_neg']
      refine ih (d4 T :: B) s1 (fun U hU => hp U (List.mem_cons_of_mem _ hU)) h1 (fun τ hτ => hK τ ?_)
      rw [ef, List.append_assoc, List.filter_cons_of_pos (show k4 (d4 T) = true from decide_eq_true c)]
      exact hτ
    · have := e9 h1 hq hT (Q := fun s28 => ∀ x15 : Int32, x15 = nI R.length + (-1) → (w_X9_hour_L429 K Q (R.length + 1) s28 x15)) (fun τ hτ x ex => ?_)
      · rw [List.length_reverse] at this; exact this
      · rw [ex, add_neg']
        refine ih B τ (fun U hU => hp U (List.mem_cons_of_mem _ hU)) hτ (fun τ hτ => hK τ ?_)
        rw [ef, List.append_assoc, List.filter_cons_of_neg (show ¬ k4 (d4 T) = true from fun z => (of_decide_eq_true z) c)]
        exact hτ
