/-! hour: both lists side by side -/
theorem kl (T : Tk) : ¬ lv (sT T 3 0) = true := fun z => absurd (of_decide_eq_true z : (0 : Int32) < 0) (by decide)
theorem sim_tide {ht : Nat → Int32} {v : Int32} {n : Nat} : ∀ L : List Tk, (∀ T, T ∈ L → lv T = true ∧ ∃ p, p < n ∧ p < 10 ∧ T 1 = nI p) → (L.map (tF ht v)).filter lv = L.filter (qd ht v n) := by
  intro L
  induction L with
  | nil => intro _; rfl
  | cons T L ih =>
    intro h
    obtain ⟨h1, p, hp, hp10, hT⟩ := h T List.mem_cons_self
    have ih' := ih (fun U hU => h U (List.mem_cons_of_mem _ hU))
    have hN1 : N (T 1) = p := by rw [hT]; exact nI_clamp (by omega)
    rw [List.map_cons]
    by_cases hd : dr ht v p = true
    · have e1 : tF ht v T = sT T 3 0 := by unfold tF; rw [hN1, hd]; rfl
      have e2 : qd ht v n T = false := by unfold qd; rw [hN1, hd]; simp [hp]
      rw [e1, List.filter_cons_of_neg (kl _), List.filter_cons_of_neg (by rw [e2]; decide), ih']
    · have hd' : dr ht v p = false := by simpa using hd
      have e1 : tF ht v T = T := by unfold tF; rw [hN1, hd']; rfl
      have e2 : qd ht v n T = true := by unfold qd; rw [hN1, hd']; simp
      rw [e1, List.filter_cons_of_pos h1, List.filter_cons_of_pos e2, ih']
theorem c8_map {n : Nat} {L : List Tk} {f : Tk → Tk} (h : c8 n L) (h1 : ∀ T, f T 1 = T 1) (h2 : ∀ T, (lv T = false → T 3 = 0) → lv (f T) = false → f T 3 = 0) : c8 n (L.map f) := by
  intro X hX
  obtain ⟨T, hT, e⟩ := List.mem_map.mp hX
  subst e
  obtain ⟨g1, g2⟩ := h T hT
  exact ⟨by rw [h1]; exact g1, h2 T g2⟩
theorem c8_tide {n : Nat} {L : List Tk} {ht : Nat → Int32} {v : Int32} (h : c8 n L) : c8 n (L.map (tF ht v)) := by
  refine c8_map h (fun T => ?_) (fun T g => ?_)
  · unfold tF
    split <;> rfl
  · unfold tF
    split
    · intro _; rfl
    · exact g
theorem c8_kill {n : Nat} {L : List Tk} (h : c8 n L) : c8 n (L.map (fun T => sT T 3 0)) := c8_map h (fun T => rfl) (fun T _ _ => rfl)
theorem c8_pass {n : Nat} {L : List Tk} (h : c8 n L) : c8 n (L.map pF) := by
  refine c8_map h (fun T => ?_) (fun T g => ?_)
  · unfold pF
    split <;> rfl
  · unfold pF
    split
    · exact g
    · intro _; rfl
theorem sim_kill : ∀ L : List Tk, (L.map (fun T => sT T 3 0)).filter lv = [] := by
  intro L
  induction L with
  | nil => rfl
  | cons T L ih => rw [List.map_cons, List.filter_cons_of_neg (kl _), ih]
theorem pay_0 {T : Tk} (h : T 3 = 0) : pay T = 0 := by
  unfold pay
  rw [h, Int32.mul_zero, Int32.zero_mul]
theorem payr_0 {T : Tk} {v : Int32} (h : T 3 = 0) : payr v T = 0 := by
  unfold payr
  rw [h, Int32.mul_zero, Int32.zero_mul]
  rfl
theorem sim_pass {n e : Nat} : ∀ L : List Tk, dz L → (∀ T, T ∈ L.filter lv → tok n e T) → (L.map pF).filter lv = ((L.filter lv).map d4).filter k4 := by
  intro L
  induction L with
  | nil => intro _ _; rfl
  | cons T L ih =>
    intro hd hk
    by_cases e : lv T = true
    · rw [List.filter_cons_of_pos e] at hk ⊢
      have ih' := ih (fun U hU => hd U (List.mem_cons_of_mem _ hU)) (fun U hU => hk U (List.mem_cons_of_mem _ hU))
      obtain ⟨-, -, -, -, -, -, t6, t7, t8'⟩ := hk T List.mem_cons_self
      have w := nn_sub t6 one_nn (by rw [one_N]; exact t7)
      rw [one_N] at w
      rw [List.map_cons, List.map_cons]
      by_cases c : 0 < T 4 - 1
      · have e1 : pF T = d4 T := if_pos c
        have e2 : k4 (d4 T) = true := decide_eq_true (fun z => by
          rw [show d4 T 4 = T 4 - 1 from rfl] at z
          rw [z] at c
          exact absurd c (by decide))
        rw [e1, List.filter_cons_of_pos (show lv (d4 T) = true from e), List.filter_cons_of_pos e2, ih']
      · have e1 : pF T = sT (sT T 4 (T 4 - 1)) 3 0 := if_neg c
        have hz : T 4 - 1 = 0 := by
          rw [Int32.lt_iff_toInt_lt, nn_int w.1, k32_0] at c
          rw [w.1, show N (T 4 - 1) = 0 by omega]
          rfl
        have e2 : ¬ k4 (d4 T) = true := fun z => (of_decide_eq_true z) hz
        rw [e1, List.filter_cons_of_neg (kl _), List.filter_cons_of_neg e2, ih']
    · rw [List.filter_cons_of_neg e] at hk ⊢
      have ih' := ih (fun U hU => hd U (List.mem_cons_of_mem _ hU)) hk
      have hz := hd T List.mem_cons_self (by simpa using e)
      rw [List.map_cons, List.filter_cons_of_neg (by
        unfold pF
        split
        · exact e
        · exact kl _), ih']
theorem wf_tide {n e k : Nat} (hn : n ≤ 10) {L : List Tk} {st : Nat → Int32} {lo br : Int32} {ht : Nat → Int32} {v : Int32} (h : wf n e k L st lo br) : ∀ i, i ≤ 10 → wf n e k (L.filter (qd ht v i)) (tst ht v st i) (tlo ht v st lo i) br := by
  intro i
  induction i with
  | zero => intro _; rw [qd_0, tst_0]; exact h
  | succ i ih =>
    intro hi
    have ih' := ih (by omega)
    cases hd : dr ht v i with
    | false =>
      rw [qd_n hd, tst_n hd]
      unfold tlo
      rw [hd]
      exact ih'
    | true =>
      have hL : ∀ T, T ∈ L → nn (T 1) := fun T hT => by
        obtain ⟨-, -, ⟨p, hp, e⟩, -⟩ := h.1 T hT
        rw [e]; exact nn_nI (by omega)
      obtain ⟨y1, y2⟩ := tst_y (st := st) hd
      rw [← qd_y (by omega) hd L hL, y1]
      unfold tlo
      rw [hd, if_pos rfl]
      obtain ⟨c1, c2, c3, c4, c5, c6⟩ := ih'
      have hst := (c3 i (by omega)).1
      rw [y2] at hst
      have hle : N (tst ht v st i i) ≤ sumN (fun s => N (tst ht v st i s)) 10 := sumN_le (f := fun s => N (tst ht v st i s)) (show i < 10 by omega)
      rw [y2] at hle
      have w := nn_add c4 hst (by omega)
      refine ⟨fun T hT => c1 T (List.mem_filter.mp hT).1, List.Pairwise.sublist (List.Sublist.map _ List.filter_sublist) c2, fun s hs => ?_, w.1, c5, ?_⟩
      · by_cases es : s = i
        · subst es
          rw [upd_s]
          refine ⟨nn_nI (m := 0) (by decide), ?_⟩
          have : ∀ M : List Tk, (∀ T, T ∈ M → ¬ T 1 = nI s) → hN s M = 0 := by
            intro M
            induction M with
            | nil => intro _; rfl
            | cons T M ihM =>
              intro hM
              show (if T 1 = nI s then N (T 3) else 0) + hN s M = 0
              rw [if_neg (hM T List.mem_cons_self), ihM (fun U hU => hM U (List.mem_cons_of_mem _ hU))]
          rw [this _ (fun T hT => of_decide_eq_true (List.mem_filter.mp hT).2)]
          exact Nat.zero_le _
        · rw [upd_n _ es]
          exact ⟨(c3 s hs).1, Nat.le_trans (hN_filter s _ _) (c3 s hs).2⟩
      · have := sumN_upd (f := fun s => N (tst ht v st i s)) (g := fun s => N (upd (tst ht v st i) i 0 s)) (show i < 10 by omega) (fun j _ hij => by rw [upd_n _ hij])
        simp only [upd_s, y2] at this
        rw [show N (0 : Int32) = 0 from rfl] at this
        rw [w.2]
        omega
theorem wf_nil {n e k : Nat} {L : List Tk} {st : Nat → Int32} {lo br : Int32} (h : wf n e k L st lo br) : wf n e k [] st lo br := ⟨fun T hT => absurd hT (by simp), List.Pairwise.nil, fun s hs => ⟨(h.2.2.1 s hs).1, Nat.zero_le _⟩, h.2.2.2⟩
theorem hN_d4 (s : Nat) : ∀ L : List Tk, hN s (L.map d4) = hN s L := by
  intro L
  induction L with
  | nil => rfl
  | cons T L ih =>
    show (if T 1 = nI s then N (T 3) else 0) + hN s (L.map d4) = _ + hN s L
    rw [ih]
theorem wf_pass {n e k : Nat} {L : List Tk} {st : Nat → Int32} {lo br : Int32} (h : wf n e k L st lo br) : wf n e k ((L.map d4).filter k4) st lo br := by
  obtain ⟨c1, c2, c3, c4⟩ := h
  refine ⟨fun X hX => ?_, ?_, fun s hs => ⟨(c3 s hs).1, Nat.le_trans (hN_filter s _ _) (by rw [hN_d4]; exact (c3 s hs).2)⟩, c4⟩
  · obtain ⟨hX1, hX2⟩ := List.mem_filter.mp hX
    obtain ⟨T, hT, eT⟩ := List.mem_map.mp hX1
    subst eT
    obtain ⟨t0, t1, t2, t3, t4, t5, t6, t7, t9'⟩ := c1 T hT
    have w := nn_sub t6 one_nn (by rw [one_N]; exact t7)
    rw [one_N] at w
    have hne : ¬ T 4 - 1 = 0 := of_decide_eq_true hX2
    refine ⟨t0, t1, t2, t3, t4, t5, w.1, ?_, ?_⟩
    · rcases Nat.eq_zero_or_pos (N (T 4 - 1)) with z | z
      · exact absurd (by rw [w.1, z]; rfl) hne
      · exact z
    · have : N (d4 T 4) = N (T 4) - 1 := w.2
      omega
  · refine List.Pairwise.sublist (List.Sublist.map _ List.filter_sublist) ?_
    rw [List.map_map]
    exact c2
