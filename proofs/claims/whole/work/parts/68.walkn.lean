/-! walk: the reference, whole -/
def bit1 (a : Int32) (i : Nat) : Bool := decide (((a >>> (nI i &&& 31)) &&& 1) = 1)
def pos (a : Int32) (m : Nat) : List Nat := (List.range m).filter (bit1 a)
theorem pos_succ (a : Int32) (m : Nat) : pos a (m + 1) = if bit1 a m then pos a m ++ [m] else pos a m := by
  unfold pos
  rw [List.range_succ, List.filter_append]
  by_cases h : bit1 a m
  · rw [if_pos h]; simp [h]
  · rw [if_neg h]; simp [h]
theorem lg_app : ∀ (l : List Nat) (x v : Nat), lg (l ++ [x]) v = if v < l.length then lg l v else if v = l.length then x else 0
  | [], x, 0 => rfl
  | [], x, v + 1 => by simp [lg]
  | a :: l, x, 0 => by simp [lg]
  | a :: l, x, v + 1 => by
    show lg (l ++ [x]) v = _
    rw [lg_app l x v]
    simp [lg]
theorem lg_get : ∀ (l : List Nat) (v : Nat) (h : v < l.length), lg l v = l[v]
  | [], _, h => absurd h (by simp)
  | a :: l, 0, _ => rfl
  | a :: l, v + 1, h => lg_get l v (by simpa using h)
theorem pos_incr (a : Int32) : incr (lg (pos a 10)) (pos a 10).length := by
  have hp : (pos a 10).Pairwise (· < ·) := List.Pairwise.filter _ List.pairwise_lt_range
  refine ⟨fun i j hij hj => ?_, fun i hi => ?_⟩
  · rw [lg_get _ i (by omega), lg_get _ j hj]
    exact List.pairwise_iff_getElem.mp hp i j (by omega) hj hij
  · rw [lg_get _ i hi]
    have : (pos a 10)[i] ∈ pos a 10 := List.getElem_mem hi
    unfold pos at this
    rw [List.mem_filter, List.mem_range] at this
    exact this.1
theorem l10 {a v2 : Int32} {K : ST → Int32 → Prop} {Q : Int32 → ST → Prop} : ∀ (d m : Nat) (s : ST), m + d = 10 → (∀ v, v < (pos a m).length → v < 7 → s 87 v = nI (lg (pos a m) v)) → (∀ τ, (∀ v, v < (pos a 10).length → v < 7 → τ 87 v = nI (lg (pos a 10) v)) → (∀ x y, x ≠ 87 → τ x y = s x y) → K τ (nI (pos a 10).length)) → w_X9_walk_L10 a v2 K Q (d + 1) s (nI (pos a m).length) (nI m) := by
  intro d
  induction d with
  | zero =>
    intro m s hm h hK
    obtain rfl : m = 10 := by omega
    exact ⟨fun _ => hK s h (fun _ _ _ => rfl), fun w => absurd (Int32.le_refl _) w⟩
  | succ d ih =>
    intro m s hm h hK
    have hlen : (pos a m).length ≤ m := by unfold pos; exact Nat.le_trans (List.length_filter_le _ _) (by simp)
    refine ⟨fun w => absurd w (nI_ge (a := m) (b := 10) (by omega) (by omega)), fun _ => ⟨fun w x ex => ?_, fun w => ⟨fun w7 x1 ex1 x2 ex2 => ?_, fun w7 => ?_⟩⟩⟩
    · have e : pos a (m + 1) = pos a m := by rw [pos_succ, if_neg (by unfold bit1; simpa using w)]
      rw [ex, nI_1]
      rw [← e] at h ⊢
      exact ih (m + 1) s (by omega) h hK
    · have e : pos a (m + 1) = pos a m ++ [m] := by rw [pos_succ, if_pos (by unfold bit1; simpa using w)]
      rw [show (7 : Int32) = nI 7 from rfl, nI_le' (by omega) (by omega)] at w7
      rw [ex1, ex2, nI_1, nI_1]
      have := ih (m + 1) s (by omega) (fun v hv hv7 => by rw [e, lg_app, if_pos (by omega)]; exact h v (by omega) hv7) hK
      rw [e, List.length_append] at this
      exact this
    · have e : pos a (m + 1) = pos a m ++ [m] := by rw [pos_succ, if_pos (by unfold bit1; simpa using w)]
      rw [show (7 : Int32) = nI 7 from rfl, nI_le' (by omega) (by omega)] at w7
      rw [nI_clamp (show (pos a m).length < 2 ^ 31 by omega)]
      refine ⟨vp_in_nI (by omega) (by decide), fun s2 e2 x1 ex1 x2 ex2 => ?_⟩
      rw [ex1, ex2, nI_1, nI_1]
      have := ih (m + 1) s2 (by omega) (fun v hv hv7 => by
        rw [e, List.length_append] at hv
        simp only [List.length_cons, List.length_nil] at hv
        rw [e, lg_app]
        by_cases hv2 : v < (pos a m).length
        · rw [if_pos hv2, e2, up_ne _ _ (by omega)]; exact h v hv2 hv7
        · rw [if_neg hv2, if_pos (by omega), show v = (pos a m).length by omega, e2, up_self]) (fun τ t1 t2 => hK τ t1 (fun x y hxy => by rw [t2 x y hxy, e2, up_ne _ _ (by omega)]))
      rw [e, List.length_append] at this
      exact this
theorem lexP_ok : ∀ (f : Nat) (L q : List Nat), L.length = f → q ∈ lexP f L → q.length = f ∧ ∀ x, x ∈ q → x ∈ L
  | 0, L, q, h, hq => by
    unfold lexP at hq
    rw [List.mem_singleton] at hq
    subst hq
    exact ⟨rfl, fun x hx => absurd hx (by simp)⟩
  | f + 1, L, q, h, hq => by
    unfold lexP at hq
    rw [List.mem_flatMap] at hq
    obtain ⟨j, hj, hq⟩ := hq
    rw [List.mem_map] at hq
    obtain ⟨q', hq', rfl⟩ := hq
    obtain ⟨r1, r2⟩ := lexP_ok f (L.erase j) q' (by rw [List.length_erase_of_mem hj]; omega) hq'
    refine ⟨by rw [List.length_cons, r1], fun x hx => ?_⟩
    rw [List.mem_cons] at hx
    rcases hx with rfl | hx
    · exact hj
    · exact List.mem_of_mem_erase (r2 x hx)
theorem lex_head : ∀ n, n < 8 → (lexP n (List.range n)).head? = some (List.range n) := by decide +kernel
theorem lg_mem (l : List Nat) (v : Nat) (h : v < l.length) : lg l v ∈ l := by rw [lg_get l v h]; exact List.getElem_mem h
theorem lg_range {n v : Nat} (h : v < n) : lg (List.range n) v = v := by rw [lg_get _ v (by simpa using h)]; simp
def frW (s1 τ : ST) : Prop := ∀ x y, x ≠ 87 → x ≠ 88 → τ x y = s1 x y
def gW (s : ST) (a : Int32) : Nat × List Nat := oG (fS s (lg (pos a 10))) (pos a 10).length (List.range (pos a 10).length) 0
theorem m_walk {s0 s1 : ST} {a1 a2 : Int32} {Q : Int32 → ST → Prop} (e1 : s1 = up s0 63 0 0) (hm : mNum s1)
    (hA : a1 < 1 → ∀ τ, frW s1 τ → Q (-1000001) τ) (hB : ¬ a1 < 1 → 0 < (a1 >>> (s1 63 10 &&& 31)) → ∀ τ, frW s1 τ → Q (-1000001) τ) (hC : ¬ a1 < 1 → ¬ 0 < (a1 >>> (s1 63 10 &&& 31)) → 7 < (pos a1 10).length → ∀ τ, frW s1 τ → Q (-1000001) τ)
    (hD : ¬ a1 < 1 → ¬ 0 < (a1 >>> (s1 63 10 &&& 31)) → (pos a1 10).length ≤ 7 → 1 ≤ (pos a1 10).length ∧ ∀ τ, frW s1 τ → (a2 = (-1000000) → Q (nI (gW s1 a1).1) τ) ∧ (¬ a2 = (-1000000) → (∀ i, i < (pos a1 10).length → a2 = nI i → Q (nI (lg (pos a1 10) (lg (gW s1 a1).2 i))) τ) ∧ (¬ (0 ≤ a2.toInt ∧ a2.toInt ≤ ((pos a1 10).length : Int) - 1) → Q (-1000000) τ))) : w_X9_walk s0 a1 a2 Q := by
  intro s1' e1'
  obtain rfl : s1' = s1 := e1'.trans e1.symm
  have hlen : (pos a1 10).length ≤ 10 := by unfold pos; exact Nat.le_trans (List.length_filter_le _ _) (by simp)
  refine ⟨11, l10 10 0 s1' (by omega) (fun v hv => absurd hv (by simp [pos])) (fun τ t1 t2 => ?_)⟩
  have hf : frW s1' τ := fun x y hx _ => t2 x y hx
  refine ⟨fun w => hA w τ hf, fun w => ?_⟩
  rw [t2 63 10 (by omega)]
  refine ⟨fun w2 => hB w w2 τ hf, fun w2 => ?_⟩
  rw [show (7 : Int32) = nI 7 from rfl, nI_le' (by omega) (by omega)]
  refine ⟨fun w3 => ?_, fun w3 => hC w w2 (by omega) τ hf⟩
  obtain ⟨hn1, hD⟩ := hD w w2 w3
  have hS := pos_incr a1
  unfold gW at hD
  generalize hn : (pos a1 10).length = n at *
  have hh := lex_head n (by omega)
  cases hl : lexP n (List.range n) with
  | nil => rw [hl] at hh; simp at hh
  | cons q r =>
    rw [hl] at hh
    have hq : q = List.range n := by simpa using hh
    have hok : ∀ p, p ∈ q :: r → okp n p ∧ oval (fS s1' (lg (pos a1 10))) 0 p ≤ 5000 := by
      intro p hp
      rw [← hl] at hp
      obtain ⟨r1, r2⟩ := lexP_ok n (List.range n) p (by simp) hp
      have hlt : ∀ x, x ∈ p → x < n := fun x hx => by have := r2 x hx; rwa [List.mem_range] at this
      refine ⟨⟨r1, fun v hv => hlt _ (lg_mem p v (by omega))⟩, ?_⟩
      have := oval_le (F := fS s1' (lg (pos a1 10))) p 0 (fun j hj pp => by
        have h1 := (hm _ (hS.2 j (hlt j hj))).2.2.2.2.2.1
        unfold fS; omega)
      rw [r1] at this
      omega
    have hc := chn_ok n (by omega) hn1
    rw [hl] at hc
    refine ⟨r.length + 2, l79 w3 hn1 hm hS r q τ (-1) none hc hok (fun v hv => by rw [hq, lg_range hv]; exact t1 v hv (by omega)) rfl hf (fun ρ v hb hρ => ?_)⟩
    rw [← hl, lex_best _ n (List.range n) 0 (by simp)] at hb
    obtain ⟨g1, g2, g3⟩ := hb
    obtain ⟨d1, d2⟩ := hD ρ hρ
    refine ⟨fun ne => R9_in (fun hz => tt1 ?_) (fun hz => tt0 ((d2 ne).2 ?_)), fun e => by rw [g1]; exact d1 e⟩
    · rw [k64_0, Int32.toInt_toInt64, nm1 (by omega)] at hz
      obtain ⟨i, hi, ei⟩ := vp_in_of (vp_lt hz) (by omega)
      have hi7 : vp_in a2 7 := by rw [ei]; exact vp_in_nI (by omega) (by decide)
      refine ⟨hi7, ?_⟩
      rw [ei, nI_clamp (show i < 2 ^ 31 by omega), g3 i hi]
      exact (d2 ne).1 i hi ei
    · rw [k64_0, Int32.toInt_toInt64, nm1 (by omega)] at hz
      exact hz
