theorem st_walk {c : Nat} {σ : ST} {Q : Int32 → Int32 → ST → Prop} (h : Inv c σ) (hQ : ∀ r s, Inv (c + 1) s → Q r r s) (x y : Int32) : w_X8_walk σ x y (fun r1 s1 => w_X9_walk s1 x y (fun r2 s2 => Q r1 r2 s2)) := by
  have hh := h
  obtain ⟨n, t, hs, hst, htk, hmo, hru, htp, has⟩ := h
  obtain ⟨a1, a2, a3, a4, a5⟩ := id hs
  have hm := hmo.1
  have hS := pos_incr x
  have hsh := shr_e (n := n) a1 x
  have mod : ∀ (τ : ST) (R : Int32), frC σ τ → (x < 1 → R = (-1000001)) → (¬ x < 1 → 0 < (x >>> (nI n &&& 31)) → R = (-1000001)) → (¬ x < 1 → ¬ 0 < (x >>> (nI n &&& 31)) → 7 < (pos x 10).length → R = (-1000001)) → (¬ x < 1 → ¬ 0 < (x >>> (nI n &&& 31)) → (pos x 10).length ≤ 7 → 1 ≤ (pos x 10).length ∧ (y = (-1000000) → R = nI (gW σ x).1) ∧ (¬ y = (-1000000) → (∀ i, i < (pos x 10).length → y = nI i → R = nI (lg (pos x 10) (lg (gW σ x).2 i))) ∧ (¬ (0 ≤ y.toInt ∧ y.toInt ≤ ((pos x 10).length : Int) - 1) → R = (-1000000)))) → w_X9_walk τ x y (fun r2 s2 => Q R r2 s2) := by
    intro τ R hf gA gB gC gD
    generalize es : up τ 63 0 0 = s1
    have ag : ∀ a b, ¬ (a = 17 ∧ b = 3) → a ≠ 18 → a ≠ 19 → ¬ (a = 20 ∧ b ≠ 0) → ¬ (a = 63 ∧ b = 0) → s1 a b = σ a b := fun a b z1 z2 z3 z4 z5 => by rw [← es, up_ne _ _ z5, hf a b z1 z2 z3 z4]
    have h10 : s1 63 10 = nI n := by rw [ag 63 10 (by omega) (by omega) (by omega) (by omega) (by omega)]; exact a4
    have hm1 : mNum s1 := fun i hi => by
      rw [ag 66 i (by omega) (by omega) (by omega) (by omega) (by omega), ag 67 i (by omega) (by omega) (by omega) (by omega) (by omega), ag 68 i (by omega) (by omega) (by omega) (by omega) (by omega), ag 69 i (by omega) (by omega) (by omega) (by omega) (by omega), ag 70 i (by omega) (by omega) (by omega) (by omega) (by omega)]
      exact hm i hi
    have hg : gW s1 x = gW σ x := by
      unfold gW
      have : fS s1 (lg (pos x 10)) = fS σ (lg (pos x 10)) := funext fun j => funext fun p => by
        unfold fS
        rw [ag 69 _ (by omega) (by omega) (by omega) (by omega) (by omega), ag 70 _ (by omega) (by omega) (by omega) (by omega) (by omega)]
      rw [this]
    have hI : ∀ ρ, frW s1 ρ → Inv (c + 1) ρ := fun ρ hρ => hh.fr (by omega) (fun a b hf => by
      rw [hρ a b (by omega) (by omega), ag a b (by omega) (by omega) (by omega) (by omega) (by omega)])
    refine m_walk es.symm hm1 (fun w ρ hρ => leaf hQ (hI ρ hρ) (gA w)) (fun w w2 ρ hρ => ?_) (fun w w2 w3 ρ hρ => ?_) (fun w w2 w3 => ?_)
    · rw [h10] at w2; exact leaf hQ (hI ρ hρ) (gB w w2)
    · rw [h10] at w2; exact leaf hQ (hI ρ hρ) (gC w w2 w3)
    · rw [h10] at w2
      rw [hg]
      obtain ⟨z1, z2, z3⟩ := gD w w2 w3
      exact ⟨z1, fun ρ hρ => ⟨fun e => leaf hQ (hI ρ hρ) (z2 e), fun e => ⟨fun i hi ei => leaf hQ (hI ρ hρ) ((z3 e).1 i hi ei), fun e2 => leaf hQ (hI ρ hρ) ((z3 e).2 e2)⟩⟩⟩
  have f0 : frC σ σ := fun _ _ _ _ _ _ => rfl
  have hx1 : x < 1 ↔ x ≤ 0 := lt1 x
  refine ⟨fun w => mod σ _ f0 (fun _ => rfl) (fun w2 => absurd (hx1.mpr w) w2) (fun w2 => absurd (hx1.mpr w) w2) (fun w2 => absurd (hx1.mpr w) w2), fun w => ?_⟩
  have wn : ¬ x < 1 := fun e => w (hx1.mp e)
  have hxp : 0 < x.toInt := by rw [Int32.le_iff_toInt_le, k32_0] at w; omega
  have hd0 : 0 ≤ x.toInt / 2 ^ n := Int.ediv_nonneg (by omega) (Int.le_of_lt (Int.pow_pos (by decide)))
  have hzero : (x >>> (nI n &&& 31)) = 0 ↔ ¬ 0 < (x >>> (nI n &&& 31)) := by
    constructor
    · intro e; rw [e]; decide
    · intro e
      rw [Int32.lt_iff_toInt_lt, k32_0] at e
      exact Int32.toInt_inj.mp (by rw [k32_0]; omega)
  rw [a3]
  refine ⟨fun w2 => mod σ _ f0 (fun w3 => absurd w3 wn) (fun _ _ => rfl) (fun _ w3 => absurd (hzero.mpr w3) w2) (fun _ w3 => absurd (hzero.mpr w3) w2), fun w2 => R_bitc ?_⟩
  have hx24 : x.toInt < 1024 := by
    have e := hsh
    rw [w2, k32_0] at e
    have hp : (2 : Int) ^ n ≤ 2 ^ 10 := by
      have := Nat.pow_le_pow_right (n := 2) (by decide) a1
      exact_mod_cast this
    have hp0 : (0 : Int) < 2 ^ n := Int.pow_pos (by decide)
    have := Int.lt_ediv_add_one_mul_self x.toInt hp0
    rw [← e] at this
    omega
  obtain ⟨a, ha, rfl⟩ : ∃ a : Nat, a < 1024 ∧ x = nI a := ⟨N x, by have := N_int (x := x) (by omega); omega, nn_of (by omega)⟩
  obtain ⟨k1, k2⟩ := fin5 a ha
  have ha1 : 1 ≤ a := by rw [nI_toInt (by omega)] at hxp; omega
  have k2 := k2 ha1
  have hlen : (pos (nI a) 10).length ≤ 10 := by unfold pos; exact Nat.le_trans (List.length_filter_le _ _) (by simp)
  rw [k1, show (7 : Int32) = nI 7 from rfl, nI_le' (by omega) (by omega)]
  have w2' := hzero.mp w2
  refine ⟨fun h7 => ?_, fun h7 => mod σ _ f0 (fun w3 => absurd w3 wn) (fun _ w3 => absurd w3 w2') (fun _ _ _ => rfl) (fun _ _ w3 => absurd w3 h7)⟩
  have hl : ∀ v, v < (pos (nI a) 10).length → lg (pos (nI a) 10) v < 10 := pos_lt (nI a) 10
  have hn8 : (pos (nI a) 10).length < 8 := by omega
  obtain ⟨f1, f2, f3, f4⟩ := fin4 _ hn8
  have hgm : gM σ (pos (nI a) 10) (2 ^ (pos (nI a) 10).length - 1) = gW σ (nI a) := by
    unfold gM gW
    rw [f2, List.length_range, Nat.sub_self]
  intro s1 e1
  refine ⟨11, pl7 hm hst h7 (fun τ1 g1 g2 => ?_) 10 0 s1 (by omega) (fun x y z1 z2 z3 z4 => by rw [e1, up_ne _ _ z1]) ⟨by rw [e1, up_self]; rfl, fun v hv => absurd hv (by simp [pos])⟩⟩
  unfold w_X1_allStops
  rw [g2.1, f1]
  refine ⟨2 ^ (pos (nI a) 10).length - 1 + 1, l52 hm hl hn8 (2 ^ (pos (nI a) 10).length - 1) 1 τ1 (by omega) (by omega) g1 g2 (fun k hk => ?_) (fun τ t1 t2 t3 => ?_)⟩
  · obtain rfl : k = 0 := by omega
    rw [g1 20 0 (by omega) (by omega) (by omega) (by omega), hru.2.2.1]
    unfold gM
    rw [ml_zero]
    rfl
  have hall := t3 (2 ^ (pos (nI a) 10).length - 1) (by omega)
  rw [hgm] at hall
  refine ⟨fun ne => ?_, fun e => ?_⟩
  · unfold w_X1_stopAt
    rw [t2.1]
    refine R8_w (fun hz => tf1 ?_) (fun hz => tf0 (mod τ _ t1 (fun w3 => absurd w3 wn) (fun _ w3 => absurd w3 w2') (fun _ _ w3 => absurd h7 (by omega)) (fun _ _ _ => ⟨k2, fun e => absurd e ne, fun _ => ⟨fun i hi ei => absurd ?_ hz, fun _ => rfl⟩⟩)))
    · rw [k32_0, nm1 (by omega)] at hz
      obtain ⟨i, hi, ei⟩ := vp_in_of (vp_lt hz) (by omega)
      unfold w_X1_allStops
      rw [t2.1, f1, ei]
      refine ⟨i + 1, l24 hm hl hn8 t2 t3 hi (gW σ (nI a)).2 (fun m hm2 hm1 hg => bn_ok hm hl hn8 hm2 hm1 t2 (fun k hk => t3 k (by omega)) ?_) i 0 _ (by omega) (by omega) ?_ (by rw [hgm]; rfl) (by rw [f2, List.length_range]; rfl)⟩
      · obtain ⟨j, j1, j2, j3, j4, j5⟩ := gM_cons (σ := σ) (l := pos (nI a) 10) (m := m) hn8 hm2 hm1
        have ej : lg (gM σ (pos (nI a) 10) m).2 0 = j := by rw [j4]; rfl
        have ej2 : lg (gW σ (nI a)).2 i = j := by rw [← ej, hg, lg_drop0]
        rw [ej, nI_clamp (show j < 2 ^ 31 by omega)]
        refine ⟨vp_in_nI (by omega) (by decide), ?_⟩
        rw [(t2.2 j j1).1, ← ei]
        refine mod τ _ t1 (fun w3 => absurd w3 wn) (fun _ w3 => absurd w3 w2') (fun _ _ w3 => absurd h7 (by omega)) (fun _ _ _ => ⟨k2, fun e => absurd e ne, fun _ => ⟨fun i' hi' ei' => ?_, fun w3 => absurd hz w3⟩⟩)
        have : i = i' := by rw [ei] at ei'; exact (nI_eq (by omega) (by omega)).mp ei'
        rw [← this, ej2]
      · have : 2 ≤ 2 ^ (pos (nI a) 10).length := by
          have := Nat.pow_le_pow_right (n := 2) (by decide) k2
          omega
        omega
    · rw [ei, k32_0, nm1 (by omega), nI_toInt (by omega)]
      omega
  · unfold w_X1_finds w_X1_allStops
    rw [t2.1, f1]
    dsimp only
    rw [nI_clamp (show 2 ^ (pos (nI a) 10).length - 1 < 2 ^ 31 by omega), hall]
    refine ⟨vp_in_nI (by omega) (by decide), mod τ _ t1 (fun w3 => absurd w3 wn) (fun _ w3 => absurd w3 w2') (fun _ _ w3 => absurd h7 (by omega)) (fun _ _ _ => ⟨k2, fun _ => rfl, fun ne => absurd e ne⟩)⟩
