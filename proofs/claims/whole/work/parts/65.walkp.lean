/-! walk: orders, pure -/
def mxs {α : Type} (b : Option (Nat × α)) (c : Nat × α) : Option (Nat × α) := match b with
  | none => some c
  | some d => if c.1 ≤ d.1 then some d else some c
def mx {α : Type} (b : Option (Nat × α)) (C : List (Nat × α)) : Option (Nat × α) := C.foldl mxs b
theorem mx_app {α : Type} (b : Option (Nat × α)) (C D : List (Nat × α)) : mx b (C ++ D) = mx (mx b C) D := List.foldl_append
theorem mx_some {α : Type} : ∀ (C : List (Nat × α)) (d : Nat × α), mx (some d) C = match mx none C with | none => some d | some c => mxs (some d) c
  | [], d => rfl
  | a :: C, d => by
    show mx (mxs (some d) a) C = match mx (some a) C with | none => some d | some c => mxs (some d) c
    rw [mx_some C a]
    by_cases h : a.1 ≤ d.1
    · rw [show mxs (some d) a = some d from if_pos h, mx_some C d]
      cases hm : mx none C with
      | none => exact (if_pos h).symm
      | some c =>
        show mxs (some d) c = match mxs (some a) c with | none => some d | some c => mxs (some d) c
        unfold mxs
        by_cases h2 : c.1 ≤ a.1
        · simp only [h2, if_true, h]; rw [if_pos (by omega)]
        · simp only [h2, if_false]
    · rw [show mxs (some d) a = some a from if_neg h, mx_some C a]
      cases hm : mx none C with
      | none => exact (if_neg h).symm
      | some c =>
        show mxs (some a) c = match mxs (some a) c with | none => some d | some c => mxs (some d) c
        unfold mxs
        by_cases h2 : c.1 ≤ a.1
        · simp only [h2, if_true, h, if_false]
        · simp only [h2, if_false]; rw [if_neg (by omega)]
theorem mx_one {α : Type} {b : Option (Nat × α)} {C : List (Nat × α)} {g : Nat × α} (h : mx none C = some g) : mx b C = mxs b g := by
  cases b with
  | none => exact h
  | some d => rw [mx_some, h]
theorem mx_flat {α : Type} {f : Nat → List (Nat × α)} {g : Nat → Nat × α} : ∀ (L : List Nat) (b : Option (Nat × α)), (∀ j, j ∈ L → mx none (f j) = some (g j)) → mx b (L.flatMap f) = mx b (L.map g)
  | [], _, _ => rfl
  | j :: L, b, h => by
    rw [List.flatMap_cons, mx_app, mx_one (h j (List.mem_cons_self ..)), mx_flat L _ (fun i hi => h i (List.mem_cons_of_mem _ hi))]
    rfl
theorem mx_map {a j : Nat} : ∀ (C : List (Nat × List Nat)) (b : Option (Nat × List Nat)), mx (b.map (fun c => (a + c.1, j :: c.2))) (C.map (fun c => (a + c.1, j :: c.2))) = (mx b C).map (fun c => (a + c.1, j :: c.2))
  | [], _ => rfl
  | c :: C, b => by
    show mx (mxs (b.map _) _) (C.map _) = (mx (mxs b c) C).map _
    rw [← mx_map C]
    congr 1
    cases b with
    | none => rfl
    | some d =>
      unfold mxs
      simp only [Option.map_some]
      by_cases h : c.1 ≤ d.1
      · rw [if_pos h, if_pos (by omega)]; rfl
      · rw [if_neg h, if_neg (by omega)]; rfl
def lexP : Nat → List Nat → List (List Nat)
  | 0, _ => [[]]
  | f + 1, L => L.flatMap (fun j => (lexP f (L.erase j)).map (j :: ·))
def oval (F : Nat → Nat → Nat) : Nat → List Nat → Nat
  | _, [] => 0
  | p, j :: r => F j p + oval F (p + 1) r
/-- the first best order of L from step p on -/
def oG (F : Nat → Nat → Nat) : Nat → List Nat → Nat → Nat × List Nat
  | 0, _, _ => (0, [])
  | f + 1, L, p => (mx none (L.map (fun j => (F j p + (oG F f (L.erase j) (p + 1)).1, j :: (oG F f (L.erase j) (p + 1)).2)))).getD (0, [])
theorem mx_ne {α : Type} : ∀ (C : List (Nat × α)) (d : Nat × α), ∃ e, mx (some d) C = some e
  | [], d => ⟨d, rfl⟩
  | c :: C, d => by
    show ∃ e, mx (mxs (some d) c) C = some e
    unfold mxs
    by_cases h : c.1 ≤ d.1
    · simp only [h, if_true]; exact mx_ne C d
    · simp only [h, if_false]; exact mx_ne C c
theorem oG_mx (F : Nat → Nat → Nat) (f : Nat) (L : List Nat) (p : Nat) (h : L ≠ []) : mx none (L.map (fun j => (F j p + (oG F f (L.erase j) (p + 1)).1, j :: (oG F f (L.erase j) (p + 1)).2))) = some (oG F (f + 1) L p) := by
  show mx none (L.map (fun j => (F j p + (oG F f (L.erase j) (p + 1)).1, j :: (oG F f (L.erase j) (p + 1)).2))) = some ((mx none (L.map (fun j => (F j p + (oG F f (L.erase j) (p + 1)).1, j :: (oG F f (L.erase j) (p + 1)).2)))).getD (0, []))
  cases L with
  | nil => exact absurd rfl h
  | cons a L =>
    obtain ⟨e, he⟩ := mx_ne (L.map (fun j => (F j p + (oG F f ((a :: L).erase j) (p + 1)).1, j :: (oG F f ((a :: L).erase j) (p + 1)).2))) (F a p + (oG F f ((a :: L).erase a) (p + 1)).1, a :: (oG F f ((a :: L).erase a) (p + 1)).2)
    have : mx none ((a :: L).map (fun j => (F j p + (oG F f ((a :: L).erase j) (p + 1)).1, j :: (oG F f ((a :: L).erase j) (p + 1)).2))) = some e := he
    rw [this]; rfl
/-- the best of all orders, read in their order, is the best by steps -/
theorem lex_best (F : Nat → Nat → Nat) : ∀ (f : Nat) (L : List Nat) (p : Nat), L.length = f → mx none ((lexP f L).map (fun q => (oval F p q, q))) = some (oG F f L p)
  | 0, L, p, h => rfl
  | f + 1, L, p, h => by
    have hne : L ≠ [] := by rintro rfl; simp at h
    rw [← oG_mx F f L p hne]
    rw [← mx_flat (f := fun j => ((lexP f (L.erase j)).map (fun q => (oval F (p + 1) q, q))).map (fun c => (F j p + c.1, j :: c.2)))]
    · congr 1
      show List.map _ (L.flatMap _) = _
      rw [List.map_flatMap]
      congr 1
      funext j
      rw [List.map_map, List.map_map]
      rfl
    · intro j hj
      have := lex_best F f (L.erase j) (p + 1) (by rw [List.length_erase_of_mem hj]; omega)
      rw [show (none : Option (Nat × List Nat)) = (none : Option (Nat × List Nat)).map (fun c => (F j p + c.1, j :: c.2)) from rfl, mx_map, this]
      rfl
def lg : List Nat → Nat → Nat
  | [], _ => 0
  | a :: _, 0 => a
  | _ :: r, i + 1 => lg r i
def ls : List Nat → Nat → Nat → List Nat
  | [], _, _ => []
  | _ :: r, 0, v => v :: r
  | a :: r, i + 1, v => a :: ls r i v
def piv (p : List Nat) : Nat → Option Nat
  | 0 => none
  | i + 1 => if lg p i ≤ lg p (i + 1) then some i else piv p i
def fnd (p : List Nat) (a : Nat) : Nat → Nat
  | 0 => 0
  | j + 1 => if a ≤ lg p (j + 1) then j + 1 else fnd p a j
def swp (p : List Nat) (i j : Nat) : List Nat := ls (ls p i (lg p j)) j (lg p i)
def rvs : Nat → List Nat → Nat → Nat → List Nat
  | 0, p, _, _ => p
  | f + 1, p, lo, hi => if hi ≤ lo then p else rvs f (swp p lo hi) (lo + 1) (hi - 1)
def nxt (n : Nat) (p : List Nat) : Option (List Nat) := match piv p (n - 1) with
  | none => none
  | some i => some (rvs n (swp p i (fnd p (lg p i) (n - 1))) (i + 1) (n - 1))
def eqL : List Nat → List Nat → Bool
  | [], [] => true
  | a :: r, b :: s => Nat.beq a b && eqL r s
  | _, _ => false
theorem eqL_eq : ∀ {a b : List Nat}, eqL a b = true → a = b
  | [], [], _ => rfl
  | a :: r, b :: s, h => by
    unfold eqL at h
    rw [Bool.and_eq_true] at h
    rw [Nat.eq_of_beq_eq_true h.1, eqL_eq h.2]
  | [], _ :: _, h => by simp [eqL] at h
  | _ :: _, [], h => by simp [eqL] at h
def chn (n : Nat) : List (List Nat) → Bool
  | [] => true
  | a :: r => (match nxt n a, r with
    | none, [] => true
    | some c, b :: _ => eqL c b
    | _, _ => false) && chn n r
theorem chn_ok : ∀ n, n < 8 → 1 ≤ n → chn n (lexP n (List.range n)) = true := by decide +kernel
