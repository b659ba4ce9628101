/-! rules: a text's lines, and the class's way through them -/
def lenW (i : Nat) : Nat := lenS.getD i 0
def chW (i j : Nat) : Nat := ([[104, 111, 108, 100], [114, 97, 105, 110], [114, 101, 110, 116], [122, 111, 110, 101], [97, 110, 121], [112, 108, 97, 99, 101], [112, 97, 114, 116]].getD i []).getD j 0
theorem ch_e : ∀ i, i < 7 → ∀ j, j < lenW i → chS i j = nI (chW i j) ∧ chW i j < 256 ∧ 97 ≤ chW i j := by decide +kernel
theorem len_e : ∀ i, i < 7 → lenW i ≤ 5 ∧ 1 ≤ lenW i := by decide +kernel
def isw (B : Nat → Nat) (t : Tok) (i : Nat) : Bool := decide (t.1 = 1) && decide (t.2.2 - t.2.1 = lenW i) && (List.range (lenW i)).all (fun j => decide (B (t.2.1 + j) = chW i j))
theorem isw_e {B : Nat → Nat} {t : Tok} {i : Nat} : isw B t i = true ↔ t.1 = 1 ∧ t.2.2 - t.2.1 = lenW i ∧ ∀ j, j < lenW i → B (t.2.1 + j) = chW i j := by
  unfold isw
  rw [Bool.and_eq_true, Bool.and_eq_true, List.all_eq_true, decide_eq_true_iff, decide_eq_true_iff, and_assoc]
  constructor
  · rintro ⟨h1, h2, h3⟩
    exact ⟨h1, h2, fun j hj => of_decide_eq_true (h3 j (List.mem_range.mpr hj))⟩
  · rintro ⟨h1, h2, h3⟩
    exact ⟨h1, h2, fun j hj => decide_eq_true (h3 j (List.mem_range.mp hj))⟩
abbrev Dr : Type := Nat × List (Nat × Nat) × List (Nat × Nat)
abbrev Fl : Type := Nat × Nat
def nx (B : Nat → Nat) (l : Nat) (t : Tok) : Tok := tk B l t.2.2
def rSg (B : Nat → Nat) (l : Nat) (t : Tok) : Fl ⊕ Tok := if t.1 = 3 then .inr (nx B l t) else .inl (1, t.2.1)
def rNm (B : Nat → Nat) (lo hi : Nat) (t : Tok) : Fl ⊕ Nat := if t.1 = 2 then (if lo ≤ dg B t.2.1 (t.2.2 - t.2.1) ∧ dg B t.2.1 (t.2.2 - t.2.1) ≤ hi then .inr (dg B t.2.1 (t.2.2 - t.2.1)) else .inl (2, t.2.1)) else .inl (1, t.2.1)
def rPt (B : Nat → Nat) (l lo hi : Nat) (t : Tok) : Fl ⊕ (Nat × Nat × Tok) :=
  match rNm B lo hi (nx B l t) with
  | .inl f => .inl f
  | .inr a => if isw B (nx B l (nx B l t)) 6 = true then (match rNm B 0 100 (nx B l (nx B l (nx B l t))) with
      | .inl f => .inl f
      | .inr b => match rSg B l (nx B l (nx B l (nx B l (nx B l t)))) with
        | .inl f => .inl f
        | .inr t' => .inr (a, b, t'))
    else .inl (1, (nx B l (nx B l t)).2.1)
def hw (B : Nat → Nat) (t : Tok) : Option Nat := if isw B t 3 = true then some 1 else if isw B t 4 = true then some 2 else if isw B t 5 = true then some 0 else none
def rHd (B : Nat → Nat) (l : Nat) (t : Tok) : Fl ⊕ (Nat × Tok) :=
  match hw B (nx B l t) with
  | none => .inl (1, (nx B l t).2.1)
  | some h => match rSg B l (nx B l (nx B l t)) with
    | .inl f => .inl f
    | .inr t' => .inr (h, t')
def lne (R : List (Nat × Nat)) : Nat := if R.length = 0 then 0 else (R.getD (R.length - 1) (0, 0)).1 + 1
def rLn (B : Nat → Nat) (l : Nat) (D : Dr) (t : Tok) : Fl ⊕ (Dr × Tok) :=
  if isw B t 0 = true then (match rHd B l t with
    | .inl f => .inl f
    | .inr r => .inr ((r.1, D.2.1, D.2.2), r.2))
  else if isw B t 1 = true then (if 5 ≤ D.2.1.length then .inl (3, t.2.1) else match rPt B l 1 60 t with
    | .inl f => .inl f
    | .inr r => .inr ((D.1, D.2.1 ++ [(r.1, r.2.1)], D.2.2), r.2.2))
  else if isw B t 2 = true then (if 5 ≤ D.2.2.length then .inl (3, t.2.1) else match rPt B l (lne D.2.2) 99999 t with
    | .inl f => .inl f
    | .inr r => .inr ((D.1, D.2.1, D.2.2 ++ [(r.1, r.2.1)]), r.2.2))
  else .inl (1, t.2.1)
/-- a line but for its sign -/
def rPu (B : Nat → Nat) (l lo hi : Nat) (t : Tok) : Fl ⊕ (Nat × Nat × Tok) :=
  match rNm B lo hi (nx B l t) with
  | .inl f => .inl f
  | .inr a => if isw B (nx B l (nx B l t)) 6 = true then (match rNm B 0 100 (nx B l (nx B l (nx B l t))) with
      | .inl f => .inl f
      | .inr b => .inr (a, b, nx B l (nx B l (nx B l (nx B l t)))))
    else .inl (1, (nx B l (nx B l t)).2.1)
def rHu (B : Nat → Nat) (l : Nat) (t : Tok) : Fl ⊕ (Nat × Tok) :=
  match hw B (nx B l t) with
  | none => .inl (1, (nx B l t).2.1)
  | some h => .inr (h, nx B l (nx B l t))
def rLu (B : Nat → Nat) (l : Nat) (D : Dr) (t : Tok) : Fl ⊕ (Dr × Tok) :=
  if isw B t 0 = true then (match rHu B l t with
    | .inl f => .inl f
    | .inr r => .inr ((r.1, D.2.1, D.2.2), r.2))
  else if isw B t 1 = true then (if 5 ≤ D.2.1.length then .inl (3, t.2.1) else match rPu B l 1 60 t with
    | .inl f => .inl f
    | .inr r => .inr ((D.1, D.2.1 ++ [(r.1, r.2.1)], D.2.2), r.2.2))
  else if isw B t 2 = true then (if 5 ≤ D.2.2.length then .inl (3, t.2.1) else match rPu B l (lne D.2.2) 99999 t with
    | .inl f => .inl f
    | .inr r => .inr ((D.1, D.2.1, D.2.2 ++ [(r.1, r.2.1)]), r.2.2))
  else .inl (1, t.2.1)
theorem rPt_inl {B : Nat → Nat} {l lo hi : Nat} {t : Tok} {f : Fl} (e : rPu B l lo hi t = .inl f) : rPt B l lo hi t = .inl f := by
  unfold rPu at e
  unfold rPt
  cases e1 : rNm B lo hi (nx B l t) with
  | inl g => simp only [e1] at e ⊢; exact e
  | inr a =>
    simp only [e1] at e ⊢
    split at e
    · rename_i w
      rw [if_pos w]
      cases e2 : rNm B 0 100 (nx B l (nx B l (nx B l t))) with
      | inl g => simp only [e2] at e ⊢; exact e
      | inr b => simp only [e2] at e; cases e
    · rename_i w
      rw [if_neg w]
      exact e
theorem rPt_inr {B : Nat → Nat} {l lo hi : Nat} {t : Tok} {r : Nat × Nat × Tok} (e : rPu B l lo hi t = .inr r) : rPt B l lo hi t = match rSg B l r.2.2 with
    | .inl f => .inl f
    | .inr t' => .inr (r.1, r.2.1, t') := by
  unfold rPu at e
  unfold rPt
  cases e1 : rNm B lo hi (nx B l t) with
  | inl g => simp only [e1] at e; cases e
  | inr a =>
    simp only [e1] at e ⊢
    split at e
    · rename_i w
      rw [if_pos w]
      cases e2 : rNm B 0 100 (nx B l (nx B l (nx B l t))) with
      | inl g => simp only [e2] at e; cases e
      | inr b =>
        simp only [e2] at e ⊢
        injection e with e
        rw [← e]
    · cases e
theorem rLn_inl {B : Nat → Nat} {l : Nat} {D : Dr} {t : Tok} {f : Fl} (e : rLu B l D t = .inl f) : rLn B l D t = .inl f := by
  unfold rLu at e
  unfold rLn
  split at e
  · rename_i w
    rw [if_pos w]
    unfold rHu at e
    unfold rHd
    cases e1 : hw B (nx B l t) with
    | none => simp only [e1] at e ⊢; exact e
    | some h => simp only [e1] at e; cases e
  · rename_i w
    rw [if_neg w]
    split at e
    · rename_i w1
      rw [if_pos w1]
      split at e
      · rename_i c
        rw [if_pos c]
        exact e
      · rename_i c
        rw [if_neg c]
        cases e1 : rPu B l 1 60 t with
        | inl g => simp only [e1] at e; simp only [rPt_inl e1]; exact e
        | inr r => simp only [e1] at e; cases e
    · rename_i w1
      rw [if_neg w1]
      split at e
      · rename_i w2
        rw [if_pos w2]
        split at e
        · rename_i c
          rw [if_pos c]
          exact e
        · rename_i c
          rw [if_neg c]
          cases e1 : rPu B l (lne D.2.2) 99999 t with
          | inl g => simp only [e1] at e; simp only [rPt_inl e1]; exact e
          | inr r => simp only [e1] at e; cases e
      · rename_i w2
        rw [if_neg w2]
        exact e
theorem rLn_inr {B : Nat → Nat} {l : Nat} {D : Dr} {t : Tok} {r : Dr × Tok} (e : rLu B l D t = .inr r) : rLn B l D t = match rSg B l r.2 with
    | .inl f => .inl f
    | .inr t' => .inr (r.1, t') := by
  unfold rLu at e
  unfold rLn
  split at e
  · rename_i w
    rw [if_pos w]
    unfold rHu at e
    unfold rHd
    cases e1 : hw B (nx B l t) with
    | none => simp only [e1] at e; cases e
    | some h =>
      simp only [e1] at e ⊢
      injection e with e
      rw [← e]
      cases rSg B l (nx B l (nx B l t)) <;> rfl
  · rename_i w
    rw [if_neg w]
    split at e
    · rename_i w1
      rw [if_pos w1]
      split at e
      · cases e
      · rename_i c
        rw [if_neg c]
        cases e1 : rPu B l 1 60 t with
        | inl g => simp only [e1] at e; cases e
        | inr q =>
          simp only [e1] at e
          injection e with e
          rw [← e, rPt_inr e1]
          cases rSg B l q.2.2 <;> rfl
    · rename_i w1
      rw [if_neg w1]
      split at e
      · rename_i w2
        rw [if_pos w2]
        split at e
        · cases e
        · rename_i c
          rw [if_neg c]
          cases e1 : rPu B l (lne D.2.2) 99999 t with
          | inl g => simp only [e1] at e; cases e
          | inr q =>
            simp only [e1] at e
            injection e with e
            rw [← e, rPt_inr e1]
            cases rSg B l q.2.2 <;> rfl
      · cases e
def rAl (B : Nat → Nat) (l : Nat) : Nat → Nat → Dr → Tok → Fl ⊕ (Nat × Dr)
  | 0, n, D, _ => .inr (n, D)
  | f + 1, n, D, t => if t.1 = 0 then .inr (n, D) else match rLn B l D t with
    | .inl g => .inl g
    | .inr r => rAl B l f (n + 1) r.1 r.2
def dOk (D : Dr) : Prop := D.1 ≤ 2 ∧ D.2.1.length ≤ 5 ∧ D.2.2.length ≤ 5 ∧ ∀ x, x ∈ D.2.2 → x.1 ≤ 99999
theorem lne_le {D : Dr} (h : dOk D) : lne D.2.2 ≤ 100000 := by
  unfold lne
  split
  · omega
  · rename_i hl
    have hg : D.2.2[D.2.2.length - 1]? = some (D.2.2[D.2.2.length - 1]'(by omega)) := List.getElem?_eq_getElem (by omega)
    rw [List.getD_eq_getElem?_getD, hg]
    have := h.2.2.2 _ (List.getElem_mem (show D.2.2.length - 1 < D.2.2.length by omega))
    simp only [Option.getD_some]
    omega
theorem dg_lt {B : Nat → Nat} {s : Nat} : ∀ k, (∀ q, s ≤ q → q < s + k → fig (B q) = true) → dg B s k < 10 ^ k := by
  intro k
  induction k with
  | zero => intro _; exact (by decide : 0 < 1)
  | succ k ih =>
    intro h
    have h1 := ih (fun q q1 q2 => h q q1 (by omega))
    have h2 := fig_b (h (s + k) (by omega) (by omega))
    unfold dg
    rw [Nat.pow_succ]
    omega
theorem num_lt {B : Nat → Nat} {l p : Nat} {t : Tok} (h : tkOk B l p t) (h2 : t.1 = 2) : dg B t.2.1 (t.2.2 - t.2.1) < 100000 := by
  obtain ⟨a1, a2, a3, a4, a5, a6, a7, a8⟩ := h
  obtain ⟨b1, b2⟩ := a8 h2
  have := dg_lt (B := B) (s := t.2.1) (t.2.2 - t.2.1) (fun q q1 q2 => b2 q q1 (by omega))
  have h3 : 10 ^ (t.2.2 - t.2.1) ≤ 10 ^ 5 := Nat.pow_le_pow_right (by decide) b1
  omega
theorem tkOk.mono {B : Nat → Nat} {l p q : Nat} {t : Tok} (h : tkOk B l p t) (hq : q ≤ p) : tkOk B l q t := ⟨Nat.le_trans hq h.1, h.2⟩
theorem nx_ok {B : Nat → Nat} {l p : Nat} {t : Tok} (h : tkOk B l p t) : tkOk B l t.2.2 (nx B l t) := tk_ok h.2.2.1
theorem nx_ok' {B : Nat → Nat} {l p q : Nat} {t : Tok} (h : tkOk B l p t) (hq : q ≤ p) : tkOk B l q (nx B l t) := (nx_ok h).mono (by have := h.1; have := h.2.1; omega)
theorem rSg_ok {B : Nat → Nat} {l p : Nat} {t t' : Tok} (h : tkOk B l p t) (e : rSg B l t = .inr t') : tkOk B l p t' := by
  unfold rSg at e
  split at e
  · injection e with e
    rw [← e]
    exact nx_ok' h (Nat.le_refl _)
  · cases e
theorem rPt_ok {B : Nat → Nat} {l lo hi p : Nat} {t : Tok} {r : Nat × Nat × Tok} (h : tkOk B l p t) (e : rPt B l lo hi t = .inr r) : tkOk B l t.2.2 r.2.2 ∧ lo ≤ r.1 ∧ r.1 ≤ hi := by
  unfold rPt at e
  have n1 := nx_ok h
  have n2 := nx_ok' n1 (Nat.le_refl _)
  have n3 := nx_ok' n2 (Nat.le_refl _)
  have n4 := nx_ok' n3 (Nat.le_refl _)
  cases e1 : rNm B lo hi (nx B l t) with
  | inl f => simp only [e1] at e; cases e
  | inr a =>
    simp only [e1] at e
    split at e
    · cases e2 : rNm B 0 100 (nx B l (nx B l (nx B l t))) with
      | inl f => simp only [e2] at e; cases e
      | inr b =>
        simp only [e2] at e
        cases e3 : rSg B l (nx B l (nx B l (nx B l (nx B l t)))) with
        | inl f => simp only [e3] at e; cases e
        | inr t' =>
          simp only [e3] at e
          injection e with e
          rw [← e]
          refine ⟨rSg_ok n4 e3, ?_⟩
          unfold rNm at e1
          split at e1
          · split at e1
            · rename_i hh
              injection e1 with e1
              rw [← e1]
              exact hh
            · cases e1
          · cases e1
    · cases e
theorem rLn_ok {B : Nat → Nat} {l p : Nat} {D : Dr} {t : Tok} {r : Dr × Tok} (h : tkOk B l p t) (hD : dOk D) (e : rLn B l D t = .inr r) : tkOk B l t.2.2 r.2 ∧ dOk r.1 := by
  have n1 := nx_ok h
  have n2 := nx_ok' n1 (Nat.le_refl _)
  obtain ⟨d1, d2, d3, d4'⟩ := hD
  unfold rLn at e
  split at e
  · unfold rHd at e
    cases e1 : hw B (nx B l t) with
    | none => simp only [e1] at e; cases e
    | some hh =>
      simp only [e1] at e
      cases e2 : rSg B l (nx B l (nx B l t)) with
      | inl f => simp only [e2] at e; cases e
      | inr t' =>
        simp only [e2] at e
        injection e with e
        rw [← e]
        refine ⟨rSg_ok n2 e2, ?_, d2, d3, d4'⟩
        unfold hw at e1
        split at e1
        · injection e1 with e1; simp only; omega
        · split at e1
          · injection e1 with e1; simp only; omega
          · split at e1
            · injection e1 with e1; simp only; omega
            · cases e1
  · split at e
    · split at e
      · cases e
      · rename_i hl
        cases e1 : rPt B l 1 60 t with
        | inl f => simp only [e1] at e; cases e
        | inr q =>
          simp only [e1] at e
          injection e with e
          rw [← e]
          refine ⟨(rPt_ok h e1).1, d1, ?_, d3, d4'⟩
          simp only [List.length_append, List.length_singleton]
          omega
    · split at e
      · split at e
        · cases e
        · rename_i hl
          cases e1 : rPt B l (lne D.2.2) 99999 t with
          | inl f => simp only [e1] at e; cases e
          | inr q =>
            simp only [e1] at e
            injection e with e
            rw [← e]
            have hq := rPt_ok h e1
            refine ⟨hq.1, d1, d2, ?_, fun x hx => ?_⟩
            · simp only [List.length_append, List.length_singleton]
              omega
            · rcases List.mem_append.mp hx with z | z
              · exact d4' x z
              · rw [List.mem_singleton.mp z]; exact hq.2.2
      · cases e
theorem rPu_ok {B : Nat → Nat} {l lo hi p : Nat} {t : Tok} {r : Nat × Nat × Tok} (h : tkOk B l p t) (e : rPu B l lo hi t = .inr r) : tkOk B l t.2.2 r.2.2 := by
  unfold rPu at e
  have n1 := nx_ok h
  have n2 := nx_ok' n1 (Nat.le_refl _)
  have n3 := nx_ok' n2 (Nat.le_refl _)
  have n4 := nx_ok' n3 (Nat.le_refl _)
  cases e1 : rNm B lo hi (nx B l t) with
  | inl f => simp only [e1] at e; cases e
  | inr a =>
    simp only [e1] at e
    split at e
    · cases e2 : rNm B 0 100 (nx B l (nx B l (nx B l t))) with
      | inl f => simp only [e2] at e; cases e
      | inr b =>
        simp only [e2] at e
        injection e with e
        rw [← e]
        exact n4
    · cases e
theorem rLu_ok {B : Nat → Nat} {l p : Nat} {D : Dr} {t : Tok} {r : Dr × Tok} (h : tkOk B l p t) (e : rLu B l D t = .inr r) : tkOk B l t.2.2 r.2 := by
  have n1 := nx_ok h
  have n2 := nx_ok' n1 (Nat.le_refl _)
  unfold rLu at e
  split at e
  · unfold rHu at e
    cases e1 : hw B (nx B l t) with
    | none => simp only [e1] at e; cases e
    | some hh =>
      simp only [e1] at e
      injection e with e
      rw [← e]
      exact n2
  · split at e
    · split at e
      · cases e
      · cases e1 : rPu B l 1 60 t with
        | inl f => simp only [e1] at e; cases e
        | inr q =>
          simp only [e1] at e
          injection e with e
          rw [← e]
          exact rPu_ok h e1
    · split at e
      · split at e
        · cases e
        · cases e1 : rPu B l (lne D.2.2) 99999 t with
          | inl f => simp only [e1] at e; cases e
          | inr q =>
            simp only [e1] at e
            injection e with e
            rw [← e]
            exact rPu_ok h e1
      · cases e
/-! the class -/
abbrev tR (k a : Nat) : Prop := a = 4 ∨ a = k ∨ (4 * k - 19 ≤ a ∧ a ≤ 4 * k - 16)
def DV8 (k n : Nat) (D : Dr) (σ : ST) : Prop := σ k 0 = nI n ∧ σ k 1 = nI D.1 ∧ σ k 2 = nI D.2.1.length ∧ σ k 3 = nI D.2.2.length ∧
  (∀ (j : Nat) (x : Nat × Nat), D.2.1[j]? = some x → σ (4 * k - 18 + 0 - 1) j = nI x.1 ∧ σ (4 * k - 18 + 1 - 1) j = nI x.2) ∧ ∀ (j : Nat) (x : Nat × Nat), D.2.2[j]? = some x → σ (4 * k - 18 + 2 - 1) j = nI x.1 ∧ σ (4 * k - 18 + 3 - 1) j = nI x.2
def CV (σ0 : ST) (B : Nat → Nat) (l k n : Nat) (D : Dr) (t : Tok) (σ : ST) : Prop := TV B l σ ∧ kV8 B t σ ∧ DV8 k n D σ ∧ ∀ a b, ¬ tR k a → σ a b = σ0 a b
def FV8 (σ0 : ST) (k : Nat) (f : Fl) (σ : ST) : Prop := σ 4 7 = nI f.1 ∧ σ 4 8 = nI f.2 ∧ ∀ a b, ¬ tR k a → σ a b = σ0 a b
theorem DV8.fr {k n : Nat} {D : Dr} {σ τ : ST} (hk : k = 7 ∨ k = 8) (h : DV8 k n D σ) (e : ∀ a b, a ≠ 4 → τ a b = σ a b) : DV8 k n D τ := by
  obtain ⟨h0, h1, h2, h3, h4, h5⟩ := h
  refine ⟨by rw [e _ _ (by omega)]; exact h0, by rw [e _ _ (by omega)]; exact h1, by rw [e _ _ (by omega)]; exact h2, by rw [e _ _ (by omega)]; exact h3, fun j x hx => ?_, fun j x hx => ?_⟩
  · rw [e _ _ (by omega), e _ _ (by omega)]; exact h4 j x hx
  · rw [e _ _ (by omega), e _ _ (by omega)]; exact h5 j x hx
theorem CV.adv {σ0 : ST} {B : Nat → Nat} {l k n p : Nat} {D : Dr} {t : Tok} {σ : ST} (hk : k = 7 ∨ k = 8) (h : CV σ0 B l k n D t σ) (ht : tkOk B l p t) {Q : ST → Prop} (hQ : ∀ τ, CV σ0 B l k n D (nx B l t) τ → (∀ b, 5 ≤ b → τ 4 b = σ 4 b) → Q τ) : w_X2_advance σ Q := by
  obtain ⟨h1, h2, h3, h4⟩ := h
  refine adv8 ht.2.2.1 h1 h2.2.2.1 (fun τ t1 t2 => hQ τ ⟨h1.fr (fun a b hab => t2 a b (by omega)), t1, h3.fr hk (fun a b hab => t2 a b (by omega)), fun a b hab => ?_⟩ (fun b hb => t2 4 b (by omega)))
  rw [t2 a b (by omega)]; exact h4 a b hab
theorem CV.iw {σ0 : ST} {B : Nat → Nat} {l k n p : Nat} {D : Dr} {t : Tok} {σ : ST} (h : CV σ0 B l k n D t σ) (ht : tkOk B l p t) {i : Nat} (hi : i < 7) {Q : Int32 → ST → Prop} (h1 : isw B t i = true → Q 1 σ) (h0 : isw B t i = false → Q 0 σ) : w_X2_isWord σ i Q := by
  obtain ⟨g1, ⟨g2, g3, g4, -⟩, -, -⟩ := h
  obtain ⟨t1, t2, t3, t4, -⟩ := ht
  have hl := g1.1
  have h0' : ¬ (t.1 = 1 ∧ t.2.2 - t.2.1 = lenW i ∧ ∀ j, j < lenW i → B (t.2.1 + j) = chW i j) → Q 0 σ := fun z => h0 (by
    cases e : isw B t i with
    | false => rfl
    | true => exact absurd (isw_e.mp e) z)
  have hlen := len_e i hi
  unfold w_X2_isWord
  rw [g2, g3, g4, pk_sub t2]
  have e1 : nI t.1 = 1 ↔ t.1 = 1 := nI_eq (b := 1) (by omega) (by decide)
  have e2 : nI (t.2.2 - t.2.1) = nI (lenS.getD i 0) ↔ t.2.2 - t.2.1 = lenW i := nI_eq (by omega) (show lenW i < 2 ^ 31 by omega)
  rw [e1, e2]
  refine ⟨fun z => h0' (fun w => z w.1), fun z => ⟨fun z2 => ?_, fun z2 => h0' (fun w => z2 w.2.1)⟩⟩
  have go : ∀ (d j : Nat), j + d = lenW i → (∀ q, q < j → B (t.2.1 + q) = chW i q) → w_X2_isWord_L28 i (fun s5 => Q 1 s5) Q (d + 1) σ (nI j) := by
    intro d
    induction d with
    | zero =>
      intro j hj hq
      obtain rfl : j = lenW i := by omega
      exact ⟨fun _ => h1 (isw_e.mpr ⟨z, z2, hq⟩), fun w => absurd (Int32.le_refl _) w⟩
    | succ d ih =>
      intro j hj hq
      refine ⟨fun w => absurd w (nI_ge (b := lenW i) (by omega) (by omega)), fun _ => ?_⟩
      rw [g3, nI_add]
      refine at8 g1 (by omega) ⟨vp_in_nI (N := lenW i) (by omega) (by omega), ?_⟩
      obtain ⟨c1, c2, c3⟩ := ch_e i hi j (by omega)
      rw [nI_clamp (show j < 2 ^ 31 by omega), c1]
      have hb := (g1.2.2 (t.2.1 + j) (by omega)).1
      have e3 : nI (B (t.2.1 + j)) = nI (chW i j) ↔ B (t.2.1 + j) = chW i j := nI_eq (by omega) (by omega)
      rw [e3]
      refine ⟨fun w x ex => ?_, fun w => h0' (fun w2 => w (w2.2.2 j (by omega)))⟩
      rw [ex, nI_1]
      refine ih (j + 1) (by omega) (fun q hq2 => ?_)
      by_cases e : q = j
      · rw [e]; exact w
      · exact hq q (by omega)
  exact ⟨lenW i + 1, go (lenW i) 0 (by omega) (fun q hq => absurd hq (by omega))⟩
theorem CV.ref {σ0 : ST} {B : Nat → Nat} {l k n : Nat} {D : Dr} {t : Tok} {σ : ST} (h : CV σ0 B l k n D t σ) {m : Nat} {x : Int32} (hx : x = nI m) {Q : Int32 → ST → Prop} (hQ : ∀ τ, FV8 σ0 k (m, t.2.1) τ → Q 0 τ) : w_X2_refuse σ x Q := by
  intro s1 e1 s2 e2
  have x2 : s1 4 2 = nI t.2.1 := by rw [e1, up_ne _ _ (by omega)]; exact h.2.1.2.1
  rw [x2] at e2
  refine hQ s2 ⟨by rw [e2, up_ne _ _ (by omega), e1, up_self, hx], by rw [e2, up_self], fun a b hab => ?_⟩
  rw [e2, up_ne _ _ (by omega), e1, up_ne _ _ (by omega)]
  exact h.2.2.2 a b hab
theorem CV.sg {σ0 : ST} {B : Nat → Nat} {l k n p : Nat} {D : Dr} {t : Tok} {σ : ST} (hk : k = 7 ∨ k = 8) (h : CV σ0 B l k n D t σ) (ht : tkOk B l p t) {P : ST → Prop} {Q : Int32 → ST → Prop} (h0 : ∀ f τ, rSg B l t = .inl f → FV8 σ0 k f τ → Q 0 τ) (h1 : ∀ t' τ, rSg B l t = .inr t' → CV σ0 B l k n D t' τ → P τ) : (σ 4 1 = 3 → w_X2_advance σ P) ∧ (¬ (σ 4 1 = 3) → w_X2_refuse σ 1 (fun r4 s6 => narrow .boolean (.int r4) = .int r4 ∧ Q r4 s6)) := by
  have e1 : nI t.1 = 3 ↔ t.1 = 3 := nI_eq (b := 3) (by have := ht.2.2.2.1; omega) (by decide)
  rw [h.2.1.1, e1]
  refine ⟨fun z => h.adv hk ht (fun τ t1 _ => h1 _ τ (by unfold rSg; rw [if_pos z]) t1), fun z => h.ref (m := 1) rfl (fun τ hτ => ⟨nar0, h0 _ τ (by unfold rSg; rw [if_neg z]) hτ⟩)⟩
theorem CV.num {σ0 : ST} {B : Nat → Nat} {l k n p lo hi : Nat} {D : Dr} {t : Tok} {σ : ST} (h : CV σ0 B l k n D t σ) (ht : tkOk B l p t) (hlo : lo < 2 ^ 31) (hhi : hi < 2 ^ 31) {Q : Int32 → ST → Prop} (h0 : ∀ f τ, rNm B lo hi t = .inl f → FV8 σ0 k f τ → Q 0 τ) (h1 : ∀ a, rNm B lo hi t = .inr a → σ 4 4 = nI a → Q 1 σ) : w_X2_standsNumber σ (nI lo) (nI hi) Q := by
  unfold w_X2_standsNumber
  have e1 : nI t.1 = 2 ↔ t.1 = 2 := nI_eq (b := 2) (by have := ht.2.2.2.1; omega) (by decide)
  rw [h.2.1.1, e1]
  refine ⟨fun z => ?_, fun z => h.ref (m := 1) rfl (fun τ hτ => ⟨nar0, h0 _ τ (by unfold rNm; rw [if_neg z]) hτ⟩)⟩
  have hv := num_lt ht z
  have h44 := h.2.1.2.2.2 z
  rw [h44]
  refine R8_w (fun w => tf1 (h1 _ ?_ h44)) (fun w => tf0 (h.ref (m := 2) rfl (fun τ hτ => tt0 (h0 _ τ ?_ hτ))))
  · rw [nI_toInt hlo, nI_toInt hhi, nI_toInt (by omega)] at w
    unfold rNm
    rw [if_pos z, if_pos (by omega)]
  · rw [nI_toInt hlo, nI_toInt hhi, nI_toInt (by omega)] at w
    unfold rNm
    rw [if_pos z, if_neg (by omega)]
theorem CV.fd {σ0 : ST} {B : Nat → Nat} {l k n b : Nat} {D : Dr} {t : Tok} {σ τ : ST} {v : Int32} (hk : k = 7 ∨ k = 8) (h : CV σ0 B l k n D t σ) (hb : 5 ≤ b) (e : τ = up σ 4 b v) : CV σ0 B l k n D t τ := by
  obtain ⟨h1, ⟨a1, a2, a3, a4⟩, h3, h4⟩ := h
  refine ⟨h1.fr (fun a b hab => by rw [e, up_ne _ _ (by omega)]), ⟨by rw [e, up_ne _ _ (by omega)]; exact a1, by rw [e, up_ne _ _ (by omega)]; exact a2, by rw [e, up_ne _ _ (by omega)]; exact a3, fun z => by rw [e, up_ne _ _ (by omega)]; exact a4 z⟩, h3.fr hk (fun a b hab => by rw [e, up_ne _ _ (by omega)]), fun a b hab => by rw [e, up_ne _ _ (by omega)]; exact h4 a b hab⟩
theorem CV.pt {σ0 : ST} {B : Nat → Nat} {l k n p lo hi : Nat} {D : Dr} {t : Tok} {σ : ST} (hk : k = 7 ∨ k = 8) (h : CV σ0 B l k n D t σ) (ht : tkOk B l p t) (hlo : lo < 2 ^ 31) (hhi : hi < 2 ^ 31) {Q : Int32 → ST → Prop} (h0 : ∀ f τ, rPu B l lo hi t = .inl f → FV8 σ0 k f τ → Q 0 τ) (h1 : ∀ r τ, rPu B l lo hi t = .inr r → CV σ0 B l k n D r.2.2 τ → τ 4 5 = nI r.1 → τ 4 6 = nI r.2.1 → Q 1 τ) : w_X2_readPart σ (nI lo) (nI hi) Q := by
  have n1 := nx_ok ht
  have n2 := nx_ok n1
  have n3 := nx_ok n2
  unfold rPu at h0 h1
  refine h.adv hk ht (fun s1 c1 k1 => c1.num n1 hlo hhi (fun f τ ef hf => tf0 (h0 f τ (by simp only [ef]) hf)) (fun a ea va => tf1 (fun s3 e3 => ?_)))
  rw [va] at e3
  simp only [ea] at h0 h1
  have c3 := c1.fd hk (by omega) e3
  refine c3.adv hk n1 (fun s4 c4 k4 => c4.iw n2 (by omega) (fun w => tf1 ?_) (fun w => tf0 (c4.ref (m := 1) rfl (fun τ hτ => ⟨nar0, h0 _ τ (by rw [if_neg (by rw [w]; decide)]) hτ⟩))))
  rw [if_pos w] at h0 h1
  refine c4.adv hk n2 (fun s6 c6 k6 => c6.num (lo := 0) (hi := 100) n3 (by decide) (by decide) (fun f τ ef hf => tf0 (h0 f τ (by simp only [ef]) hf)) (fun b eb vb => tf1 (fun s8 e8 => ?_)))
  rw [vb] at e8
  simp only [eb] at h0 h1
  have c8 := c6.fd hk (by omega) e8
  refine c8.adv hk n3 (fun s9 c9 k9 => h1 (a, b, nx B l (nx B l (nx B l (nx B l t)))) s9 rfl c9 ?_ ?_)
  · rw [k9 5 (by omega), e8, up_ne _ _ (by omega), k6 5 (by omega), k4 5 (by omega), e3, up_self]
  · rw [k9 6 (by omega), e8, up_self]
