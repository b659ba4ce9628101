/-! rules: the reference's lines -/
abbrev u9 (a b : Nat) : Prop := (a = 63 ∧ (b = 34 ∨ b = 35 ∨ b = 38 ∨ (45 ≤ b ∧ b ≤ 50))) ∨ (82 ≤ a ∧ a ≤ 85)
def DV9 (D : Dr) (σ : ST) : Prop := σ 63 34 = nI D.1 ∧ σ 63 35 = nI D.2.1.length ∧ σ 63 38 = nI D.2.2.length ∧
  (∀ (j : Nat) (x : Nat × Nat), D.2.1[j]? = some x → σ 82 j = nI x.1 ∧ σ 83 j = nI x.2) ∧ ∀ (j : Nat) (x : Nat × Nat), D.2.2[j]? = some x → σ 84 j = nI x.1 ∧ σ 85 j = nI x.2
def RV (σ0 : ST) (B : Nat → Nat) (l : Nat) (D : Dr) (t : Tok) (σ : ST) : Prop := TV9 B l σ ∧ kV9 t σ ∧ DV9 D σ ∧ σ 63 49 = 0 ∧ ∀ a b, ¬ u9 a b → σ a b = σ0 a b
def FR (σ0 : ST) (B : Nat → Nat) (l : Nat) (f : Fl) (t : Tok) (σ : ST) : Prop := TV9 B l σ ∧ kV9 t σ ∧ (∃ p, tkOk B l p t) ∧ σ 63 49 = nI f.1 ∧ 1 ≤ f.1 ∧ f.1 ≤ 3 ∧ σ 63 50 = nI f.2 ∧ ∀ a b, ¬ u9 a b → σ a b = σ0 a b
theorem FR.ne {σ0 : ST} {B : Nat → Nat} {l : Nat} {f : Fl} {t : Tok} {σ : ST} (h : FR σ0 B l f t σ) : ¬ σ 63 49 = 0 := by
  rw [h.2.2.2.1]
  exact nI_ne0 h.2.2.2.2.1 (by have := h.2.2.2.2.2.1; omega)
theorem FR.nle {σ0 : ST} {B : Nat → Nat} {l : Nat} {f : Fl} {t : Tok} {σ : ST} (h : FR σ0 B l f t σ) : ¬ σ 63 49 ≤ 0 := by
  rw [h.2.2.2.1]
  exact nI_nle h.2.2.2.2.1 (by have := h.2.2.2.2.2.1; omega)
theorem FR.bad {σ0 : ST} {B : Nat → Nat} {l : Nat} {f : Fl} {t : Tok} {σ : ST} (h : FR σ0 B l f t σ) {a : Int32} {Q : ST → Prop} (hQ : Q σ) : w_X9_bad σ a Q := ⟨fun _ => hQ, fun z => absurd z h.ne⟩
theorem FR.need {σ0 : ST} {B : Nat → Nat} {l : Nat} {f : Fl} {t : Tok} {σ : ST} (h : FR σ0 B l f t σ) {a : Int32} {Q : ST → Prop} (hQ : Q σ) : w_X9_need σ a Q := ⟨fun _ => ⟨fun _ => hQ, fun z => absurd z h.ne⟩, fun _ => h.bad ⟨fun _ => hQ, fun z => absurd z h.ne⟩⟩
theorem FR.word {σ0 : ST} {B : Nat → Nat} {l : Nat} {f : Fl} {t : Tok} {σ : ST} (h : FR σ0 B l f t σ) {Q : Int64 → ST → Prop} (hQ : ∀ v, Q v σ) : w_X9_word σ Q := by
  obtain ⟨p, hp⟩ := h.2.2.1
  exact word9 h.1 h.2.1 hp (hQ _)
theorem FR.num {σ0 : ST} {B : Nat → Nat} {l : Nat} {f : Fl} {t : Tok} {σ : ST} (h : FR σ0 B l f t σ) {a b : Int32} {Q : Int32 → ST → Prop} (hQ : ∀ v, Q v σ) : w_X9_numberIn σ a b Q := by
  obtain ⟨p, hp⟩ := h.2.2.1
  intro x ex
  rw [ex, h.2.1.2.1]
  refine num9 h.1 h.2.1 hp ⟨fun _ => ⟨fun _ => h.need (hQ _), fun _ => h.need (hQ _)⟩, fun _ => ?_⟩
  have e3 : ((¬ (σ 63 46) = 3 → (w_X9_need σ 0 (fun s5 => Q (nI (if t.1 = 2 then dg B t.2.1 (t.2.2 - t.2.1) else 0)) s5))) ∧ ((σ 63 46) = 3 → (w_X9_need σ 1 (fun s6 => Q (nI (if t.1 = 2 then dg B t.2.1 (t.2.2 - t.2.1) else 0)) s6)))) := ⟨fun _ => h.need (hQ _), fun _ => h.need (hQ _)⟩
  rw [in_eq3]
  exact ⟨fun _ => e3, fun _ => h.bad e3⟩
theorem FR.sg {σ0 : ST} {B : Nat → Nat} {l : Nat} {f : Fl} {t : Tok} {σ : ST} (h : FR σ0 B l f t σ) {Q : ST → Prop} (hQ : Q σ) : w_X9_readLine_J342 Q σ := ⟨fun _ => h.need hQ, fun _ => h.need hQ⟩
theorem FR.j245 {σ0 : ST} {B : Nat → Nat} {l : Nat} {f : Fl} {t : Tok} {σ : ST} (h : FR σ0 B l f t σ) {v3 v5 t1 : Int32} {Q : ST → Prop} (hQ : Q σ) : w_X9_readLine_J245 Q σ v3 v5 t1 :=
  h.need (h.num (fun _ => ⟨fun _ => ⟨fun _ => h.sg hQ, fun z => absurd z h.ne⟩, fun z => absurd z h.ne⟩))
theorem FR.j72 {σ0 : ST} {B : Nat → Nat} {l : Nat} {f : Fl} {t : Tok} {σ : ST} (h : FR σ0 B l f t σ) {v1 : Int64} {t1 : Int32} {Q : ST → Prop} (hQ : Q σ) : w_X9_readLine_J72 Q σ v1 t1 :=
  h.need ⟨fun z => absurd z h.nle, fun _ => hQ⟩
theorem FR.j42 {σ0 : ST} {B : Nat → Nat} {l : Nat} {f : Fl} {t : Tok} {σ : ST} (h : FR σ0 B l f t σ) {v1 : Int64} {Q : ST → Prop} (hQ : Q σ) : w_X9_readLine_J42 Q σ v1 :=
  ⟨fun _ => h.j72 hQ, fun _ => ⟨fun _ => h.j72 hQ, fun _ => ⟨fun _ => h.j72 hQ, fun _ => h.j72 hQ⟩⟩⟩
theorem RV.bad {σ0 : ST} {B : Nat → Nat} {l p : Nat} {D : Dr} {t : Tok} {σ : ST} (h : RV σ0 B l D t σ) (ht : tkOk B l p t) {m : Nat} (h1 : 1 ≤ m) (h3 : m ≤ 3) {x : Int32} (hx : x = nI m) {Q : ST → Prop} (hQ : ∀ τ, FR σ0 B l (m, t.2.1) t τ → Q τ) : w_X9_bad σ x Q := by
  obtain ⟨g1, ⟨k1, k2, k3, k4'⟩, g3, g4, g5⟩ := h
  refine ⟨fun z => absurd g4 z, fun _ s1 e1 s2 e2 => hQ s2 ?_⟩
  have x2 : s1 63 47 = nI t.2.1 := by rw [e1, up_ne _ _ (by omega)]; exact k2
  rw [x2] at e2
  have ag : ∀ a b, ¬ (a = 63 ∧ (b = 49 ∨ b = 50)) → s2 a b = σ a b := fun a b z => by rw [e2, up_ne _ _ (by omega), e1, up_ne _ _ (by omega)]
  exact ⟨g1.fr (fun a b hab => ag a b (by omega)), ⟨by rw [ag _ _ (by omega)]; exact k1, by rw [ag _ _ (by omega)]; exact k2, by rw [ag _ _ (by omega)]; exact k3, by rw [ag _ _ (by omega)]; exact k4'⟩, ⟨p, ht⟩, by rw [e2, up_ne _ _ (by omega), e1, up_self]; exact hx, h1, h3, by rw [e2, up_self], fun a b hab => by rw [ag a b (by omega)]; exact g5 a b hab⟩
theorem RV.need0 {σ0 : ST} {B : Nat → Nat} {l p : Nat} {D : Dr} {t : Tok} {σ : ST} (h : RV σ0 B l D t σ) (ht : tkOk B l p t) {Q : ST → Prop} (hQ : ∀ τ, FR σ0 B l (1, t.2.1) t τ → Q τ) : w_X9_need σ 0 Q :=
  ⟨fun z => absurd rfl z, fun _ => h.bad ht (m := 1) (by omega) (by omega) rfl (fun τ hτ => ⟨fun _ => hQ τ hτ, fun z => absurd z hτ.ne⟩)⟩
theorem DV9.fr {D : Dr} {σ τ : ST} (h : DV9 D σ) (e : ∀ a b, ¬ (a = 63 ∧ ¬ (b = 34 ∨ b = 35 ∨ b = 38)) → τ a b = σ a b) : DV9 D τ := by
  obtain ⟨h1, h2, h3, h4, h5⟩ := h
  refine ⟨by rw [e _ _ (by omega)]; exact h1, by rw [e _ _ (by omega)]; exact h2, by rw [e _ _ (by omega)]; exact h3, fun j x hx => ?_, fun j x hx => ?_⟩
  · rw [e _ _ (by omega), e _ _ (by omega)]; exact h4 j x hx
  · rw [e _ _ (by omega), e _ _ (by omega)]; exact h5 j x hx
theorem RV.need1 {σ0 : ST} {B : Nat → Nat} {l p : Nat} {D : Dr} {t : Tok} {σ : ST} (h : RV σ0 B l D t σ) (ht : tkOk B l p t) {Q : ST → Prop} (hQ : ∀ τ, RV σ0 B l D (nx B l t) τ → Q τ) : w_X9_need σ 1 Q := by
  obtain ⟨g1, ⟨k1, k2, k3, k4'⟩, g3, g4, g5⟩ := h
  refine ⟨fun _ => ⟨fun z => absurd g4 z, fun _ => step9 ht.2.2.1 g1 k3 (fun τ t1 t2 => hQ τ ⟨g1.fr (fun a b hab => t2 a b (by omega)), t1, g3.fr (fun a b hab => t2 a b (by omega)), by rw [t2 _ _ (by omega)]; exact g4, fun a b hab => by rw [t2 a b (by omega)]; exact g5 a b hab⟩)⟩, fun z => absurd z (by decide)⟩
theorem RV.sg {σ0 : ST} {B : Nat → Nat} {l p : Nat} {D : Dr} {t : Tok} {σ : ST} (h : RV σ0 B l D t σ) (ht : tkOk B l p t) {Q : ST → Prop} (h0 : ∀ f τ, rSg B l t = .inl f → FR σ0 B l f t τ → Q τ) (h1 : ∀ t' τ, rSg B l t = .inr t' → RV σ0 B l D t' τ → Q τ) : w_X9_readLine_J342 Q σ := by
  unfold w_X9_readLine_J342
  rw [h.2.1.1, (rk_e ht.2.2.2.1).2.2.1]
  exact ⟨fun z => h.need0 ht (fun τ hτ => h0 _ τ (by unfold rSg; rw [if_neg z]) hτ), fun z => h.need1 ht (fun τ hτ => h1 _ τ (by unfold rSg; rw [if_pos z]) hτ)⟩
theorem RV.num {σ0 : ST} {B : Nat → Nat} {l p lo hi : Nat} {D : Dr} {t : Tok} {σ : ST} (h : RV σ0 B l D t σ) (ht : tkOk B l p t) (hlo : lo < 2 ^ 31) (hhi : hi < 2 ^ 31) {Q : Int32 → ST → Prop} (h0 : ∀ f v τ, rNm B lo hi t = .inl f → FR σ0 B l f t τ → Q v τ) (h1 : ∀ a τ, rNm B lo hi t = .inr a → RV σ0 B l D (nx B l t) τ → Q (nI a) τ) : w_X9_numberIn σ (nI lo) (nI hi) Q := by
  intro x ex
  rw [ex, h.2.1.2.1]
  have e3 := (rk_e ht.2.2.2.1).2.1
  refine num9 h.1 h.2.1 ht ?_
  rw [h.2.1.1, e3]
  refine ⟨fun z => ⟨fun _ => h.need0 ht (fun τ hτ => h0 _ _ τ (by unfold rNm; rw [if_neg z]) hτ), fun z2 => absurd z2 z⟩, fun z => ?_⟩
  have hv := num_lt ht z
  rw [if_pos z]
  refine R9_in (fun w => tf1 ?_) (fun w => tf0 (h.bad ht (m := 2) (by omega) (by omega) rfl (fun τ hτ => ?_)))
  · rw [Int32.toInt_toInt64, Int32.toInt_toInt64, nI_toInt hlo, nI_toInt hhi, nI_toInt (by omega)] at w
    rw [h.2.1.1, e3]
    exact ⟨fun z2 => absurd z z2, fun _ => h.need1 ht (fun τ hτ => h1 _ τ (by unfold rNm; rw [if_pos z, if_pos (by omega)]) hτ)⟩
  · rw [Int32.toInt_toInt64, Int32.toInt_toInt64, nI_toInt hlo, nI_toInt hhi, nI_toInt (by omega)] at w
    have hr : rNm B lo hi t = .inl (2, t.2.1) := by unfold rNm; rw [if_pos z, if_neg (by omega)]
    exact ⟨fun _ => hτ.need (h0 _ _ τ hr hτ), fun _ => hτ.need (h0 _ _ τ hr hτ)⟩
theorem RV.word {σ0 : ST} {B : Nat → Nat} {l p : Nat} {D : Dr} {t : Tok} {σ : ST} (h : RV σ0 B l D t σ) (ht : tkOk B l p t) {Q : Int64 → ST → Prop} (hQ : Q (lN (wv B t)) σ) : w_X9_word σ Q := word9 h.1 h.2.1 ht hQ
/-- a rule is added -/
def addR (v : Int32) (D : Dr) (y : Nat × Nat) : Dr := if v = 0 then (D.1, D.2.1, D.2.2 ++ [y]) else (D.1, D.2.1 ++ [y], D.2.2)
theorem RV.add {σ0 : ST} {B : Nat → Nat} {l a b : Nat} {v3 : Int32} {D : Dr} {t : Tok} {s6 : ST} (h : RV σ0 B l D t s6) (h1 : v3 = 0 → D.2.2.length < 5) (h2 : ¬ v3 = 0 → D.2.1.length < 5) {Q : ST → Prop} (hQ : ∀ τ, RV σ0 B l (addR v3 D (a, b)) t τ → w_X9_readLine_J342 Q τ) :
    ((v3 = 0 → (((¬ (s6 63 49) = 0 → (w_X9_readLine_J342 Q s6)) ∧ ((s6 63 49) = 0 → (vp_in (s6 63 38) 5 ∧ (∀ s12 : ST, s12 = up s6 84 (s6 63 38).toNatClampNeg (nI a) → (vp_in (s12 63 38) 5 ∧ (∀ s13 : ST, s13 = up s12 85 (s12 63 38).toNatClampNeg (nI b) → (∀ s14 : ST, s14 = up s13 63 38 ((s13 63 38) + 1) → (w_X9_readLine_J342 Q s14)))))))))) ∧ (¬ (v3 = 0) → (vp_in (s6 63 35) 5 ∧ (∀ s15 : ST, s15 = up s6 82 (s6 63 35).toNatClampNeg (nI a) → (vp_in (s15 63 35) 5 ∧ (∀ s16 : ST, s16 = up s15 83 (s15 63 35).toNatClampNeg (nI b) → (∀ s17 : ST, s17 = up s16 63 35 ((s16 63 35) + 1) → (w_X9_readLine_J342 Q s17)))))))) := by
  obtain ⟨g1, ⟨k1, k2, k3, k4'⟩, ⟨d1, d2, d3, d4', d5⟩, g4, g5⟩ := h
  refine ⟨fun z => ⟨fun w => absurd g4 w, fun _ => ?_⟩, fun z => ?_⟩
  · have hl := h1 z
    have hv : vp_in (nI D.2.2.length) 5 := vp_in_nI hl (by decide)
    have hcl := nI_clamp (show D.2.2.length < 2 ^ 31 by omega)
    rw [d3, hcl]
    refine ⟨hv, fun s2 e2 => ?_⟩
    rw [show s2 63 38 = nI D.2.2.length by rw [e2, up_ne _ _ (by omega)]; exact d3, hcl]
    refine ⟨hv, fun s3 e3 s4 e4 => hQ s4 ?_⟩
    rw [show s3 63 38 = nI D.2.2.length by rw [e3, up_ne _ _ (by omega), e2, up_ne _ _ (by omega)]; exact d3, nI_1] at e4
    have ag : ∀ x y, ¬ (x = 63 ∧ y = 38) → ¬ (x = 84 ∧ y = D.2.2.length) → ¬ (x = 85 ∧ y = D.2.2.length) → s4 x y = s6 x y := fun x y z1 z2 z3 => by rw [e4, up_ne _ _ z1, e3, up_ne _ _ z3, e2, up_ne _ _ z2]
    unfold addR
    rw [if_pos z]
    refine ⟨g1.fr (fun x y hab => ag x y (by omega) (by omega) (by omega)), ⟨by rw [ag _ _ (by omega) (by omega) (by omega)]; exact k1, by rw [ag _ _ (by omega) (by omega) (by omega)]; exact k2, by rw [ag _ _ (by omega) (by omega) (by omega)]; exact k3, by rw [ag _ _ (by omega) (by omega) (by omega)]; exact k4'⟩, ⟨by rw [ag _ _ (by omega) (by omega) (by omega)]; exact d1, by rw [ag _ _ (by omega) (by omega) (by omega)]; exact d2, by rw [e4, up_self]; simp, fun j x hx => ?_, fun j x hx => ?_⟩, by rw [ag _ _ (by omega) (by omega) (by omega)]; exact g4, fun x y hab => by rw [ag _ _ (by omega) (by omega) (by omega)]; exact g5 x y hab⟩
    · rw [ag _ _ (by omega) (by omega) (by omega), ag _ _ (by omega) (by omega) (by omega)]; exact d4' j x hx
    · rcases app_get hx with ⟨z1, z2⟩ | ⟨z1, z2⟩
      · rw [ag _ _ (by omega) (by omega) (by omega), ag _ _ (by omega) (by omega) (by omega)]; exact d5 j x z2
      · subst z1
        rw [z2]
        exact ⟨by rw [e4, up_ne _ _ (by omega), e3, up_ne _ _ (by omega), e2, up_self], by rw [e4, up_ne _ _ (by omega), e3, up_self]⟩
  · have hl := h2 z
    have hv : vp_in (nI D.2.1.length) 5 := vp_in_nI hl (by decide)
    have hcl := nI_clamp (show D.2.1.length < 2 ^ 31 by omega)
    rw [d2, hcl]
    refine ⟨hv, fun s2 e2 => ?_⟩
    rw [show s2 63 35 = nI D.2.1.length by rw [e2, up_ne _ _ (by omega)]; exact d2, hcl]
    refine ⟨hv, fun s3 e3 s4 e4 => hQ s4 ?_⟩
    rw [show s3 63 35 = nI D.2.1.length by rw [e3, up_ne _ _ (by omega), e2, up_ne _ _ (by omega)]; exact d2, nI_1] at e4
    have ag : ∀ x y, ¬ (x = 63 ∧ y = 35) → ¬ (x = 82 ∧ y = D.2.1.length) → ¬ (x = 83 ∧ y = D.2.1.length) → s4 x y = s6 x y := fun x y z1 z2 z3 => by rw [e4, up_ne _ _ z1, e3, up_ne _ _ z3, e2, up_ne _ _ z2]
    unfold addR
    rw [if_neg z]
    refine ⟨g1.fr (fun x y hab => ag x y (by omega) (by omega) (by omega)), ⟨by rw [ag _ _ (by omega) (by omega) (by omega)]; exact k1, by rw [ag _ _ (by omega) (by omega) (by omega)]; exact k2, by rw [ag _ _ (by omega) (by omega) (by omega)]; exact k3, by rw [ag _ _ (by omega) (by omega) (by omega)]; exact k4'⟩, ⟨by rw [ag _ _ (by omega) (by omega) (by omega)]; exact d1, by rw [e4, up_self]; simp, by rw [ag _ _ (by omega) (by omega) (by omega)]; exact d3, fun j x hx => ?_, fun j x hx => ?_⟩, by rw [ag _ _ (by omega) (by omega) (by omega)]; exact g4, fun x y hab => by rw [ag _ _ (by omega) (by omega) (by omega)]; exact g5 x y hab⟩
    · rcases app_get hx with ⟨z1, z2⟩ | ⟨z1, z2⟩
      · rw [ag _ _ (by omega) (by omega) (by omega), ag _ _ (by omega) (by omega) (by omega)]; exact d4' j x z2
      · subst z1
        rw [z2]
        exact ⟨by rw [e4, up_ne _ _ (by omega), e3, up_ne _ _ (by omega), e2, up_self], by rw [e4, up_ne _ _ (by omega), e3, up_self]⟩
    · rw [ag _ _ (by omega) (by omega) (by omega), ag _ _ (by omega) (by omega) (by omega)]; exact d5 j x hx
/-- behind the word of a rain or rent line -/
theorem RV.pt {σ0 : ST} {B : Nat → Nat} {l p lo hi : Nat} {v3 : Int32} {D : Dr} {t : Tok} {σ : ST} (h : RV σ0 B l D (nx B l t) σ) (ht : tkOk B l p t) (hlo : lo < 2 ^ 31) (hhi : hi < 2 ^ 31) (hl1 : v3 = 0 → D.2.2.length < 5) (hl2 : ¬ v3 = 0 → D.2.1.length < 5) {Q : ST → Prop} (h0 : ∀ f t' τ, rPt B l lo hi t = .inl f → FR σ0 B l f t' τ → Q τ) (h1 : ∀ r τ, rPt B l lo hi t = .inr r → RV σ0 B l (addR v3 D (r.1, r.2.1)) r.2.2 τ → Q τ) : w_X9_readLine_J223 Q σ v3 (nI lo) (nI hi) := by
  have n1 := nx_ok ht
  have n2 := nx_ok n1
  have n3 := nx_ok n2
  have n4 := nx_ok n3
  unfold rPt at h0 h1
  refine h.num n1 hlo hhi (fun f v τ ef hf => ?_) (fun a s3 ea c3 => ?_)
  · have hq := h0 f _ τ (by simp only [ef]) hf
    exact hf.word (fun _ => ⟨fun _ => hf.j245 hq, fun _ => hf.j245 hq⟩)
  simp only [ea] at h0 h1
  refine c3.word n2 ?_
  rw [isw_c n2 (i := 6) (C := 1885434484) (by omega) rfl]
  refine ⟨fun w => ?_, fun w => ?_⟩
  · rw [if_neg w] at h0
    refine c3.need0 n2 (fun τ hτ => ?_)
    have hq := h0 _ _ τ rfl hτ
    exact hτ.num (fun _ => ⟨fun _ => ⟨fun _ => hτ.sg hq, fun z => absurd z hτ.ne⟩, fun z => absurd z hτ.ne⟩)
  · rw [if_pos w] at h0 h1
    refine c3.need1 n2 (fun s5 c5 => c5.num (lo := 0) (hi := 100) n3 (by decide) (by decide) (fun f v τ ef hf => ?_) (fun b s6 eb c6 => ?_))
    · have hq := h0 f _ τ (by simp only [ef]) hf
      exact ⟨fun _ => ⟨fun _ => hf.sg hq, fun z => absurd z hf.ne⟩, fun z => absurd z hf.ne⟩
    · simp only [eb] at h0 h1
      refine ⟨fun z => absurd c6.2.2.2.1 z, fun _ => c6.add hl1 hl2 (fun s14 c14 => c14.sg n4 (fun f τ ef hf => h0 f _ τ (by simp only [ef]) hf) (fun t' τ et ct => h1 (a, b, t') τ (by simp only [et]) ct))⟩
