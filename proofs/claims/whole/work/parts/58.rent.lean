/-! rent -/
theorem lt_N {x y : Int32} (hx : nn x) (hy : nn y) : x < y ↔ N x < N y := by
  rw [Int32.lt_iff_toInt_lt, nn_int hx, nn_int hy]
  omega
theorem pos_sub {m p : Int32} (hm : nn m) (hp : nn p) : 0 < m - p ↔ ¬ m ≤ p := by
  have h1 := nn_int hm
  have h2 := nn_int hp
  have h3 := N_lt m
  have h4 := N_lt p
  rw [le_N hm hp, Int32.lt_iff_toInt_lt, k32_0, Int32.toInt_sub, h1, h2]
  simp only [Int.bmod]
  split <;> omega
theorem piece_e {e p r v1 v2 : Int32} (he : nn e) (hp : nn p) (hv : (v1 = v2 ∧ nn v1) ∨ (v1 = 0 ∧ v2 < 0)) : ((if (0 : Int32) < ((if e < v1 then e else v1) - p) then ((if e < v1 then e else v1) - p) else 0) * r) / 100 = (if (if e ≤ v2 then e else v2) ≤ p then 0 else ((if e ≤ v2 then e else v2) - p) * r / 100) := by
  have h0 : (0 : Int32) * r / 100 = 0 := by rw [Int32.zero_mul]; rfl
  rcases hv with ⟨rfl, h1⟩ | ⟨rfl, h2⟩
  · have em : (if e < v1 then e else v1) = (if e ≤ v1 then e else v1) := by
      by_cases q : e < v1
      · rw [if_pos q, if_pos]
        rw [lt_N he h1] at q; rw [le_N he h1]; omega
      · rw [if_neg q]
        by_cases q2 : e ≤ v1
        · rw [if_pos q2]
          rw [lt_N he h1] at q; rw [le_N he h1] at q2
          unfold nn at he h1
          rw [he, h1]; congr 1; omega
        · rw [if_neg q2]
    rw [em]
    have hm : nn (if e ≤ v1 then e else v1) := by split <;> assumption
    generalize (if e ≤ v1 then e else v1) = m at hm
    by_cases q : m ≤ p
    · rw [if_pos q, if_neg (by rw [pos_sub hm hp]; exact fun w => w q), h0]
    · rw [if_neg q, if_pos (by rw [pos_sub hm hp]; exact q)]
  · have n0 : nn (0 : Int32) := nn_nI (m := 0) (by decide)
    have hn0 : N (0 : Int32) = 0 := by decide
    rw [if_neg (show ¬ e < 0 by rw [lt_N he n0, hn0]; omega), if_neg (show ¬ 0 < 0 - p by rw [pos_sub n0 hp, le_N n0 hp, hn0]; omega), h0]
    rw [Int32.lt_iff_toInt_lt, k32_0] at h2
    have h3 := nn_int he
    have h4 := nn_int hp
    rw [if_neg (show ¬ e ≤ v2 by rw [Int32.le_iff_toInt_le]; omega), if_pos (show v2 ≤ p by rw [Int32.le_iff_toInt_le]; omega)]
def rP (σ : ST) : Nat → Int32
  | 0 => 0
  | i + 1 => σ 80 i
def rS (σ : ST) (v : Int32) : Nat → Int32
  | 0 => 0
  | i + 1 => rS σ v i + (if (if σ 80 i ≤ v then σ 80 i else v) ≤ rP σ i then 0 else ((if σ 80 i ≤ v then σ 80 i else v) - rP σ i) * σ 81 i / 100)
theorem rP_nn {σ : ST} {q : Nat} (h : ∀ j, j < q → nn (σ 80 j)) : ∀ i, i ≤ q → nn (rP σ i)
  | 0, _ => nn_nI (m := 0) (by decide)
  | i + 1, hi => h i (by omega)
theorem rent8 {σ : ST} {k q : Nat} (hq : q ≤ 5) (hk : σ k 3 = nI q) (hE : ∀ j, j < q → σ (4 * k - 18 + 2 - 1) j = σ 80 j ∧ σ (4 * k - 18 + 3 - 1) j = σ 81 j ∧ nn (σ 80 j)) {v1 v2 : Int32} (hv : (v1 = v2 ∧ nn v1) ∨ (v1 = 0 ∧ v2 < 0)) {K : ST → Int32 → Prop} {Q : Int32 → ST → Prop} (hK : K σ (rS σ v2 q)) : ∀ (d i : Nat), i + d = q → w_X3_rentOf_L7 k v1 K Q (d + 1) σ (rS σ v2 i) (rP σ i) (nI i) := by
  intro d
  induction d with
  | zero =>
    intro i hi
    obtain rfl : i = q := by omega
    refine ⟨fun _ => hK, fun z => absurd (by rw [hk]; exact Int32.le_refl _) z⟩
  | succ d ih =>
    intro i hi
    have hv5 : vp_in (nI i) 5 := vp_in_nI (by omega) (by decide)
    refine ⟨fun z => absurd z (by rw [hk]; exact nI_ge (a := i) (b := q) (by omega) (by omega)), fun _ => ⟨hv5, ?_⟩⟩
    intro x1 e1
    refine ⟨hv5, fun x2 e2 => ⟨hv5, fun x3 e3 x4 e4 => ?_⟩⟩
    rw [nI_clamp (show i < 2 ^ 31 by omega)] at e1 e2 e3
    obtain ⟨g1, g2, g3⟩ := hE i (by omega)
    have hpn : nn (rP σ i) := rP_nn (q := q) (fun j hj => (hE j hj).2.2) i (by omega)
    rw [g1] at e1 e3
    rw [g2, e1, piece_e g3 hpn hv] at e2
    rw [e2, e3, e4, nI_1]
    exact ih (i + 1) (by omega)
theorem rent9 {σ : ST} {q : Nat} (hq : q ≤ 5) (hk : σ 63 31 = nI q) {v2 : Int32} {K : ST → Int32 → Prop} {Q : Int32 → ST → Prop} (hK : K σ (rS σ v2 q)) : ∀ (d i : Nat), i + d = q → w_X9_rent_L54 v2 K Q (d + 1) σ (rS σ v2 i) (rP σ i) (nI i) := by
  intro d
  induction d with
  | zero =>
    intro i hi
    obtain rfl : i = q := by omega
    refine ⟨fun _ => hK, fun z => absurd (by rw [hk]; exact Int32.le_refl _) z⟩
  | succ d ih =>
    intro i hi
    have hv5 : vp_in (nI i) 5 := vp_in_nI (by omega) (by decide)
    have h1 := ih (i + 1) (by omega)
    refine ⟨fun z => absurd z (by rw [hk]; exact nI_ge (a := i) (b := q) (by omega) (by omega)), fun _ => ⟨hv5, ?_⟩⟩
    rw [nI_clamp (show i < 2 ^ 31 by omega)]
    rw [show rS σ v2 (i + 1) = rS σ v2 i + (if (if σ 80 i ≤ v2 then σ 80 i else v2) ≤ rP σ i then 0 else ((if σ 80 i ≤ v2 then σ 80 i else v2) - rP σ i) * σ 81 i / 100) from rfl, show rP σ (i + 1) = σ 80 i from rfl] at h1
    rw [← nI_1] at h1
    refine ⟨fun c1 => ⟨hv5, fun x1 e1 => ⟨fun c2 x2 e2 => ⟨hv5, fun x3 e3 x4 e4 => ?_⟩, fun c2 => ⟨hv5, fun x2 e2 => ⟨hv5, fun x3 e3 x4 e4 => ?_⟩⟩⟩⟩, fun c1 => ⟨fun c2 x2 e2 => ⟨hv5, fun x3 e3 x4 e4 => ?_⟩, fun c2 => ⟨hv5, fun x2 e2 => ⟨hv5, fun x3 e3 x4 e4 => ?_⟩⟩⟩⟩
    · subst e1; rw [if_pos c1, if_pos c2] at h1; rw [e2, e3, e4]; exact h1
    · subst e1; rw [if_pos c1, if_neg c2] at h1; rw [e2, e3, e4]; exact h1
    · rw [if_neg c1, if_pos c2] at h1; rw [e2, e3, e4]; exact h1
    · rw [if_neg c1, if_neg c2] at h1; rw [e2, e3, e4]; exact h1
theorem rS_ag {σ τ : ST} (h : ∀ a b, ¬ (a = 63 ∧ b = 0) → τ a b = σ a b) (v : Int32) : ∀ i, rS τ v i = rS σ v i
  | 0 => rfl
  | i + 1 => by
    have e : rP τ i = rP σ i := by
      cases i with
      | zero => rfl
      | succ i => exact h 80 i (by simp)
    simp only [rS]
    rw [rS_ag h v i, h 80 i (by simp), h 81 i (by simp), e]
theorem st_rent {c : Nat} {σ : ST} {Q : Int32 → Int32 → ST → Prop} (h : Inv c σ) (hQ : ∀ r s, Inv (c + 1) s → Q r r s) (x : Int32) : w_X8_rent σ x (fun r1 s1 => w_X9_rent s1 x (fun r2 s2 => Q r1 r2 s2)) := by
  have hh := h
  obtain ⟨n, t, hs, hst, htk, hmo, hru, htp, has⟩ := h
  obtain ⟨a1, a2, a3, a4, a5, a6, a7, b0, b1, b2, b3, b4, b5, b6, b7, b8, b9⟩ := id hs
  obtain ⟨k, r, q, hk, hr, hq, h1, h2, h3, h4, h5, h6, h7, h8, h9⟩ := hru.1
  have hkN : (σ 0 11).toNatClampNeg = k - 7 := by rw [h1]; exact nI_clamp (by omega)
  have hk7 : 7 + (k - 7) = k := by omega
  have go9 : ∀ (s1 : ST) (v2 : Int32), s1 = up σ 63 0 0 → w_X9_rent_J45 (fun r2 s2 => Q (rS σ v2 q) r2 s2) s1 v2 := by
    intro s1 v2 e1
    obtain ⟨hI, hag⟩ := th hh e1
    exact ⟨q + 1, rent9 hq (by rw [hag 63 31 (by decide)]; exact h7) (leaf hQ hI (rS_ag hag v2 q).symm) q 0 (by omega)⟩
  have go8 : ∀ (v1 v2 : Int32), ((v1 = v2 ∧ nn v1) ∨ (v1 = 0 ∧ v2 < 0)) → w_X9_rent σ x (fun r2 s2 => Q (rS σ v2 q) r2 s2) → w_X3_rentOf σ k v1 (fun r1 s1 => w_X9_rent s1 x (fun r2 s2 => Q r1 r2 s2)) := by
    intro v1 v2 hv h9'
    exact ⟨q + 1, rent8 hq h6 (fun j hj => ⟨(h9 j hj).1, (h9 j hj).2.1, (h9 j hj).2.2.1⟩) hv h9' q 0 (by omega)⟩
  refine ⟨fun ex => R8_w (fun hz => tf1 ⟨by rw [hkN]; omega, fun k1 ek1 => ?_⟩) (fun hz => tf0 ?_), fun ex => ⟨by rw [hkN]; omega, fun k2 ek2 => ?_⟩⟩
  · rw [hkN, hk7] at ek1
    subst ek1
    refine go8 x x (Or.inl ⟨rfl, nn_of hz.1⟩) ?_
    intro s1 e1
    refine ⟨fun w => absurd w ex, fun _ => R9_in (fun _ => tf1 ⟨fun _ => go9 s1 x e1, fun w => absurd w ex⟩) (fun w => absurd hz w)⟩
  · intro s1 e1
    refine ⟨fun w => absurd w ex, fun _ => R9_in (fun w => absurd w hz) (fun _ => tf0 (hQ _ _ (th hh e1).1))⟩
  · rw [hkN, hk7] at ek2
    subst ek2
    refine go8 _ (σ 2 3 - σ 2 4) ?_ ?_
    · by_cases w : 0 < σ 2 3 - σ 2 4
      · rw [if_pos w]
        refine Or.inl ⟨rfl, nn_of ?_⟩
        rw [Int32.lt_iff_toInt_lt, k32_0] at w; omega
      · rw [if_neg w]
        by_cases w2 : σ 2 3 - σ 2 4 < 0
        · exact Or.inr ⟨rfl, w2⟩
        · refine Or.inl ⟨?_, nn_nI (m := 0) (by decide)⟩
          rw [Int32.lt_iff_toInt_lt, k32_0] at w w2
          exact Int32.toInt_inj.mp (by rw [k32_0]; omega)
    · intro s1 e1
      refine ⟨fun _ => ⟨fun w => absurd ex w, fun _ => ?_⟩, fun w => absurd ex w⟩
      rw [(th hh e1).2 63 8 (by decide), (th hh e1).2 63 9 (by decide), ← b8, ← b9]
      exact go9 s1 _ e1
