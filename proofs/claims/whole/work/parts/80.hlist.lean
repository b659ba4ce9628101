/-! hour: the tickets as a list -/
abbrev Tk : Type := Nat → Int32
def sT (T : Tk) (k : Nat) (v : Int32) : Tk := fun j => if j = k then v else T j
def hc (s : Nat) (T : Tk) : Int32 := if T 1 = nI s then T 3 else 0
def sm (f : Tk → Int32) : List Tk → Int32
  | [] => 0
  | T :: L => f T + sm f L
def lv (T : Tk) : Bool := decide (0 < T 3)
theorem sm_app (f : Tk → Int32) (B : List Tk) : ∀ A : List Tk, sm f (A ++ B) = sm f A + sm f B := by
  intro A
  induction A with
  | nil => exact (Int32.zero_add _).symm
  | cons T A ih =>
    show f T + sm f (A ++ B) = f T + sm f A + sm f B
    rw [ih, Int32.add_assoc]
theorem sm_mid (f : Tk → Int32) (A : List Tk) (T : Tk) (B : List Tk) : sm f (A ++ T :: B) = sm f (A ++ B) + f T := by
  rw [sm_app, sm_app]
  show sm f A + (f T + sm f B) = _
  rw [Int32.add_comm (f T), Int32.add_assoc]
theorem sm_lv {f : Tk → Int32} : ∀ L : List Tk, (∀ T, T ∈ L → lv T = false → f T = 0) → sm f (L.filter lv) = sm f L := by
  intro L
  induction L with
  | nil => intro _; rfl
  | cons T L ih =>
    intro h
    have ih' := ih (fun U hU => h U (List.mem_cons_of_mem _ hU))
    show _ = f T + sm f L
    by_cases e : lv T = true
    · rw [List.filter_cons_of_pos e]
      show f T + _ = _
      rw [ih']
    · rw [List.filter_cons_of_neg e, ih', h T List.mem_cons_self (by simpa using e), Int32.zero_add]
theorem sm_zero {f : Tk → Int32} : ∀ L : List Tk, (∀ T, T ∈ L → f T = 0) → sm f L = 0 := by
  intro L
  induction L with
  | nil => intro _; rfl
  | cons T L ih =>
    intro h
    show f T + sm f L = 0
    rw [ih (fun U hU => h U (List.mem_cons_of_mem _ hU)), h T List.mem_cons_self]
    rfl
/-- the last ticket that runs on s has one chair less -/
def ld (s : Nat) : List Tk → Option (List Tk)
  | [] => none
  | T :: L => match ld s L with
    | some L' => some (T :: L')
    | none => if T 1 = nI s ∧ 0 < T 3 then some (sT T 3 (T 3 - 1) :: L) else none
theorem ld_none {s : Nat} : ∀ {L : List Tk}, (∀ T, T ∈ L → ¬ (T 1 = nI s ∧ 0 < T 3)) → ld s L = none := by
  intro L
  induction L with
  | nil => intro _; rfl
  | cons T L ih =>
    intro h
    unfold ld
    rw [ih (fun U hU => h U (List.mem_cons_of_mem _ hU))]
    exact if_neg (h T List.mem_cons_self)
theorem ld_some {s : Nat} {T : Tk} {B : List Tk} (hT : T 1 = nI s ∧ 0 < T 3) (hB : ∀ U, U ∈ B → ¬ (U 1 = nI s ∧ 0 < U 3)) : ∀ A : List Tk, ld s (A ++ T :: B) = some (A ++ sT T 3 (T 3 - 1) :: B) := by
  intro A
  induction A with
  | nil =>
    show ld s (T :: B) = _
    unfold ld
    rw [ld_none hB]
    exact if_pos hT
  | cons U A ih =>
    show ld s (U :: (A ++ T :: B)) = _
    unfold ld
    rw [ih]
    rfl
theorem ld_form {s : Nat} : ∀ {L L' : List Tk}, ld s L = some L' → ∃ A T B, L = A ++ T :: B ∧ L' = A ++ sT T 3 (T 3 - 1) :: B ∧ T 1 = nI s ∧ 0 < T 3 := by
  intro L
  induction L with
  | nil => intro L' h; cases h
  | cons T L ih =>
    intro L' h
    unfold ld at h
    cases e : ld s L with
    | none =>
      rw [e] at h
      by_cases hc : T 1 = nI s ∧ 0 < T 3
      · simp only [hc, and_self, if_true] at h
        injection h with h
        exact ⟨[], T, L, rfl, h.symm, hc⟩
      · simp only [hc, if_false] at h
        cases h
    | some L2 =>
      rw [e] at h
      injection h with h
      obtain ⟨A, U, B, h1, h2, h3⟩ := ih e
      exact ⟨T :: A, U, B, by rw [h1]; rfl, by rw [← h, h2]; rfl, h3⟩
theorem ld_lv {s : Nat} : ∀ L : List Tk, (ld s (L.filter lv)).map (List.filter lv) = (ld s L).map (List.filter lv) := by
  intro L
  induction L with
  | nil => rfl
  | cons T L ih =>
    by_cases e : lv T = true
    · rw [List.filter_cons_of_pos e]
      unfold ld
      cases e1 : ld s L with
      | none =>
        rw [e1] at ih
        have e2 : ld s (L.filter lv) = none := by
          cases h : ld s (L.filter lv) with
          | none => rfl
          | some x => rw [h] at ih; cases ih
        rw [e2]
        by_cases hc : T 1 = nI s ∧ 0 < T 3
        · simp only [hc, and_self, if_true, Option.map_some]
          congr 1
          simp only [List.filter_cons, List.filter_filter, Bool.and_self]
        · simp only [hc, if_false]
      | some L1 =>
        rw [e1] at ih
        cases h : ld s (L.filter lv) with
        | none => rw [h] at ih; cases ih
        | some L2 =>
          rw [h] at ih
          simp only [Option.map_some, Option.some.injEq] at ih ⊢
          simp only [List.filter_cons, ih]
    · rw [List.filter_cons_of_neg e, ih]
      conv => rhs; unfold ld
      cases e1 : ld s L with
      | none =>
        have hc : ¬ (T 1 = nI s ∧ 0 < T 3) := fun z => e (decide_eq_true z.2)
        simp only [hc, if_false]
      | some L1 =>
        simp only [Option.map_some]
        rw [List.filter_cons_of_neg e]
/-- chairs of s -/
def hN (s : Nat) : List Tk → Nat
  | [] => 0
  | T :: L => (if T 1 = nI s then N (T 3) else 0) + hN s L
theorem hN_app (s : Nat) (B : List Tk) : ∀ A : List Tk, hN s (A ++ B) = hN s A + hN s B := by
  intro A
  induction A with
  | nil => exact (Nat.zero_add _).symm
  | cons T A ih =>
    show _ + hN s (A ++ B) = _ + hN s A + hN s B
    rw [ih, Nat.add_assoc]
theorem hs_hN (s : Nat) : ∀ L : List Tk, (∀ T, T ∈ L → nn (T 3)) → sm (hc s) L = nI (hN s L) := by
  intro L
  induction L with
  | nil => intro _; rfl
  | cons T L ih =>
    intro h
    show hc s T + sm (hc s) L = nI (_ + hN s L)
    rw [ih (fun U hU => h U (List.mem_cons_of_mem _ hU)), ← nI_add]
    congr 1
    unfold hc
    by_cases e : T 1 = nI s
    · rw [if_pos e, if_pos e]; exact h T List.mem_cons_self
    · rw [if_neg e, if_neg e]; rfl
theorem hN_mem {s : Nat} {T : Tk} (e : T 1 = nI s) : ∀ {L : List Tk}, T ∈ L → N (T 3) ≤ hN s L := by
  intro L
  induction L with
  | nil => intro h; cases h
  | cons U L ih =>
    intro h
    show _ ≤ (if U 1 = nI s then N (U 3) else 0) + hN s L
    rcases List.mem_cons.mp h with h | h
    · subst h; rw [if_pos e]; omega
    · have := ih h; omega
theorem hN_filter (s : Nat) (p : Tk → Bool) : ∀ L : List Tk, hN s (L.filter p) ≤ hN s L := by
  intro L
  induction L with
  | nil => exact Nat.le_refl _
  | cons T L ih =>
    by_cases e : p T = true
    · rw [List.filter_cons_of_pos e]
      show _ + hN s (L.filter p) ≤ _ + hN s L
      omega
    · rw [List.filter_cons_of_neg e]
      show _ ≤ _ + hN s L
      omega
theorem i32_pos {x : Int32} (h : 0 < x) : (x - 1).toInt = x.toInt - 1 ∧ 1 ≤ x.toInt := by
  have h1 : 1 ≤ x.toInt := by rw [Int32.lt_iff_toInt_lt, k32_0] at h; omega
  obtain ⟨j, hj, e⟩ := nI_of (x := x) (by rw [Int32.lt_iff_toInt_lt, k32_0]; omega)
  subst e
  rw [nI_toInt hj] at h1 ⊢
  obtain ⟨k, rfl⟩ : ∃ k, j = k + 1 := ⟨j - 1, by omega⟩
  rw [nI_pred, nI_toInt (by omega)]
  omega
/-- one breaking on s: tickets, standing, broken -/
abbrev Wk : Type := List Tk × (Nat → Int32) × Int32
def brk (s : Nat) (W : Wk) : Wk :=
  if W.2.1 s = 0 then W else if ¬ W.2.1 s - sm (hc s) W.1 = 0 then (W.1, upd W.2.1 s (W.2.1 s - 1), W.2.2 + 1)
  else match ld s W.1 with
    | none => W
    | some L' => (L', upd W.2.1 s (W.2.1 s - 1), W.2.2 + 1)
def fl (W : Wk) : Wk := (W.1.filter lv, W.2)
def dz (L : List Tk) : Prop := ∀ T, T ∈ L → lv T = false → T 3 = 0
theorem hs_lv {L : List Tk} (h : dz L) (s : Nat) : sm (hc s) (L.filter lv) = sm (hc s) L := sm_lv L (fun T hT e => by
  unfold hc
  rw [h T hT e]
  exact ite_self _)
theorem brk_fl {s : Nat} {W : Wk} (h : dz W.1) : fl (brk s (fl W)) = fl (brk s W) := by
  obtain ⟨L, st, br⟩ := W
  have hh := hs_lv h s
  have hl := ld_lv (s := s) L
  unfold brk fl
  simp only at hh hl ⊢
  rw [hh]
  by_cases e1 : st s = 0
  · simp only [e1, if_true, List.filter_filter, Bool.and_self]
  · by_cases e2 : ¬ st s - sm (hc s) L = 0
    · simp only [e1, e2, if_true, if_false, List.filter_filter, Bool.and_self, not_false_eq_true]
    · simp only [e1, e2, if_false]
      cases a : ld s L with
      | none =>
        cases b : ld s (L.filter lv) with
        | none => simp only [List.filter_filter, Bool.and_self]
        | some x => rw [a, b] at hl; cases hl
      | some y =>
        cases b : ld s (L.filter lv) with
        | none => rw [a, b] at hl; cases hl
        | some x =>
          rw [a, b] at hl
          simp only [Option.map_some, Option.some.injEq] at hl
          simp only [hl]
def it (b : Wk → Wk) : Nat → Wk → Wk
  | 0, W => W
  | k + 1, W => it b k (b W)
/-- what a class's list of tickets keeps -/
def c8 (n : Nat) (L : List Tk) : Prop := ∀ T, T ∈ L → (∃ p, p < n ∧ T 1 = nI p) ∧ (lv T = false → T 3 = 0)
theorem c8.dz {n : Nat} {L : List Tk} (h : c8 n L) : dz L := fun T hT => (h T hT).2
theorem lv_dec {T : Tk} (h : 0 < T 3) : lv (sT T 3 (T 3 - 1)) = false → (sT T 3 (T 3 - 1)) 3 = 0 := by
  intro e
  have h2 : (sT T 3 (T 3 - 1)) 3 = T 3 - 1 := rfl
  unfold lv at e
  rw [h2] at e ⊢
  have h1 := i32_pos h
  have h3 : ¬ (0 : Int32) < T 3 - 1 := of_decide_eq_false e
  rw [Int32.lt_iff_toInt_lt, k32_0, h1.1] at h3
  apply Int32.toInt_inj.mp
  rw [h1.1, k32_0]
  omega
theorem c8_mid {n : Nat} {A : List Tk} {T U : Tk} {B : List Tk} (h : c8 n (A ++ T :: B)) (hU : (∃ p, p < n ∧ U 1 = nI p) ∧ (lv U = false → U 3 = 0)) : c8 n (A ++ U :: B) := by
  intro X hX
  rcases List.mem_append.mp hX with hX | hX
  · exact h X (List.mem_append_left _ hX)
  · rcases List.mem_cons.mp hX with hX | hX
    · rw [hX]; exact hU
    · exact h X (List.mem_append_right _ (List.mem_cons_of_mem _ hX))
theorem c8_brk {n s : Nat} {W : Wk} (h : c8 n W.1) : c8 n (brk s W).1 := by
  obtain ⟨L, st, br⟩ := W
  unfold brk
  simp only at h ⊢
  by_cases e1 : st s = 0
  · simp only [e1, if_true]; exact h
  · by_cases e2 : ¬ st s - sm (hc s) L = 0
    · simp only [e1, e2, if_true, if_false, not_false_eq_true]; exact h
    · simp only [e1, e2, if_false]
      cases a : ld s L with
      | none => exact h
      | some y =>
        obtain ⟨A, T, B, h1, h2, h3, h4⟩ := ld_form a
        simp only
        rw [h1] at h
        rw [h2]
        exact c8_mid h ⟨(h T (List.mem_append_right _ List.mem_cons_self)).1, lv_dec h4⟩
theorem it_fl {n s : Nat} : ∀ (k : Nat) (W : Wk), c8 n W.1 → it (fun w => fl (brk s w)) k (fl W) = fl (it (brk s) k W) := by
  intro k
  induction k with
  | zero => intro W _; rfl
  | succ k ih =>
    intro W h
    show it _ k (fl (brk s (fl W))) = _
    rw [brk_fl h.dz, ih _ (c8_brk h)]
    rfl
/-- all stretches below s: sun, wear -/
def wr (b : Nat → Wk → Wk) (sun : Nat) : Nat → Wk × (Nat → Int32) → Wk × (Nat → Int32)
  | 0, x => x
  | s + 1, x => (it (b s) ((N ((wr b sun s x).2 s) + sun * N ((wr b sun s x).1.2.1 s)) / 1000) (wr b sun s x).1, upd (wr b sun s x).2 s (nI ((N ((wr b sun s x).2 s) + sun * N ((wr b sun s x).1.2.1 s)) % 1000)))
theorem c8_it {n s : Nat} : ∀ (k : Nat) (W : Wk), c8 n W.1 → c8 n (it (brk s) k W).1 := by
  intro k
  induction k with
  | zero => intro W h; exact h
  | succ k ih => intro W h; exact ih _ (c8_brk h)
theorem wr_fl {n sun : Nat} (W : Wk) (we : Nat → Int32) (h : c8 n W.1) : ∀ s, c8 n (wr brk sun s (W, we)).1.1 ∧ wr (fun s w => fl (brk s w)) sun s (fl W, we) = (fl (wr brk sun s (W, we)).1, (wr brk sun s (W, we)).2) := by
  intro s
  induction s with
  | zero => exact ⟨h, rfl⟩
  | succ s ih =>
    refine ⟨c8_it _ _ ih.1, ?_⟩
    show (it _ _ _, _) = _
    rw [ih.2]
    simp only
    have := it_fl (s := s) ((N ((wr brk sun s (W, we)).2 s) + sun * N ((wr brk sun s (W, we)).1.2.1 s)) / 1000) (wr brk sun s (W, we)).1 ih.1
    show (it (fun w => fl (brk s w)) ((N ((wr brk sun s (W, we)).2 s) + sun * N ((wr brk sun s (W, we)).1.2.1 s)) / 1000) (fl (wr brk sun s (W, we)).1), _) = _
    rw [this]
    rfl
