/-! rules: the class's lines -/
theorem CV.hd {σ0 : ST} {B : Nat → Nat} {l k n p : Nat} {D : Dr} {t : Tok} {σ : ST} (hk : k = 7 ∨ k = 8) (h : CV σ0 B l k n D t σ) (ht : tkOk B l p t) {Q : Int32 → ST → Prop} (h0 : ∀ f τ, rHu B l t = .inl f → FV8 σ0 k f τ → Q 0 τ) (h1 : ∀ r τ, rHu B l t = .inr r → CV σ0 B l k n (r.1, D.2.1, D.2.2) r.2 τ → Q 1 τ) : w_X2_readHold σ k Q := by
  have n1 := nx_ok ht
  unfold rHu at h0 h1
  refine h.adv hk ht (fun s1 c1 _ => ?_)
  have go : ∀ (hh : Nat) (s6 : ST), hw B (nx B l t) = some hh → s6 = up s1 k 1 (nI hh) → w_X2_advance s6 (fun s7 => Q 1 s7) := by
    intro hh s6 eh e6
    simp only [eh] at h0 h1
    have c6 : CV σ0 B l k n (hh, D.2.1, D.2.2) (nx B l t) s6 := by
      obtain ⟨g1, ⟨a1, a2, a3, a4⟩, ⟨d0, d1, d2, d3, d4', d5⟩, g4⟩ := c1
      refine ⟨g1.fr (fun a b hab => by rw [e6, up_ne _ _ (by omega)]), ⟨by rw [e6, up_ne _ _ (by omega)]; exact a1, by rw [e6, up_ne _ _ (by omega)]; exact a2, by rw [e6, up_ne _ _ (by omega)]; exact a3, fun z => by rw [e6, up_ne _ _ (by omega)]; exact a4 z⟩, ⟨by rw [e6, up_ne _ _ (by omega)]; exact d0, by rw [e6, up_self], by rw [e6, up_ne _ _ (by omega)]; exact d2, by rw [e6, up_ne _ _ (by omega)]; exact d3, fun j x hx => ?_, fun j x hx => ?_⟩, fun a b hab => by rw [e6, up_ne _ _ (by omega)]; exact g4 a b hab⟩
      · rw [e6, up_ne _ _ (by omega), up_ne _ _ (by omega)]; exact d4' j x hx
      · rw [e6, up_ne _ _ (by omega), up_ne _ _ (by omega)]; exact d5 j x hx
    exact c6.adv hk n1 (fun s7 c7 _ => h1 (hh, nx B l (nx B l t)) s7 rfl c7)
  refine c1.iw n1 (by omega) (fun w => tt1 (fun s12 e12 => go 1 s12 (by unfold hw; rw [if_pos w]) e12)) (fun w3 => tt0 (c1.iw n1 (by omega) (fun w => tt1 (fun s9 e9 => go 2 s9 (by unfold hw; rw [if_neg (by rw [w3]; decide), if_pos w]) e9)) (fun w4 => tt0 (c1.iw n1 (by omega) (fun w => tt1 (fun s9 e9 => go 0 s9 (by unfold hw; rw [if_neg (by rw [w3]; decide), if_neg (by rw [w4]; decide), if_pos w]) e9)) (fun w5 => tt0 (c1.ref (m := 1) rfl (fun τ hτ => ⟨nar0, h0 _ τ ?_ hτ⟩)))))))
  have : hw B (nx B l t) = none := by unfold hw; rw [if_neg (by rw [w3]; decide), if_neg (by rw [w4]; decide), if_neg (by rw [w5]; decide)]
  simp only [this]
theorem lt5 {n : Nat} (h : n ≤ 5) : nI n < 5 ↔ n < 5 := nI_ltI (b := 5) (by omega) (by decide)
theorem app_get {R : List (Nat × Nat)} {y x : Nat × Nat} {j : Nat} (h : (R ++ [y])[j]? = some x) : (j ≠ R.length ∧ R[j]? = some x) ∨ (j = R.length ∧ x = y) := by
  by_cases e : j = R.length
  · subst e
    rw [List.getElem?_append_right (Nat.le_refl _), Nat.sub_self] at h
    injection h with h
    exact Or.inr ⟨rfl, h.symm⟩
  · refine Or.inl ⟨e, ?_⟩
    have hl := (List.getElem?_eq_some_iff.mp h).1
    rw [List.length_append, List.length_singleton] at hl
    rw [List.getElem?_append_left (by omega)] at h
    exact h
theorem CV.rain {σ0 : ST} {B : Nat → Nat} {l k n p : Nat} {D : Dr} {t : Tok} {σ : ST} (hk : k = 7 ∨ k = 8) (h : CV σ0 B l k n D t σ) (ht : tkOk B l p t) (hD : dOk D) {Q : Int32 → ST → Prop} (h3 : 5 ≤ D.2.1.length → ∀ τ, FV8 σ0 k (3, t.2.1) τ → Q 0 τ) (h0 : ¬ 5 ≤ D.2.1.length → ∀ f τ, rPu B l 1 60 t = .inl f → FV8 σ0 k f τ → Q 0 τ) (h1 : ¬ 5 ≤ D.2.1.length → ∀ r τ, rPu B l 1 60 t = .inr r → CV σ0 B l k n (D.1, D.2.1 ++ [(r.1, r.2.1)], D.2.2) r.2.2 τ → Q 1 τ) : w_X2_readRain σ k Q := by
  unfold w_X2_readRain
  rw [h.2.2.1.2.2.1, lt5 hD.2.1]
  refine ⟨fun c => h.pt (lo := 1) (hi := 60) hk ht (by decide) (by decide) (fun f τ ef hf => tf0 (h0 (by omega) f τ ef hf)) (fun r s1 er c1 v5 v6 => tf1 ?_), fun c => h.ref (m := 3) rfl (fun τ hτ => ⟨nar0, h3 (by omega) τ hτ⟩)⟩
  obtain ⟨g1, ⟨a1, a2, a3, a4⟩, ⟨d0, d1, d2, d3, d4', d5⟩, g4⟩ := c1
  have hv : vp_in (nI D.2.1.length) 5 := vp_in_nI c (by decide)
  have hcl := nI_clamp (show D.2.1.length < 2 ^ 31 by omega)
  unfold w_X3_addRain
  rw [d2, hcl, v5, v6]
  refine ⟨hv, fun s2 e2 => ?_⟩
  rw [show s2 k 2 = nI D.2.1.length by rw [e2, up_ne _ _ (by omega)]; exact d2, hcl]
  refine ⟨hv, fun s3 e3 s4 e4 => h1 (by omega) r s4 er ?_⟩
  rw [show s3 k 2 = nI D.2.1.length by rw [e3, up_ne _ _ (by omega), e2, up_ne _ _ (by omega)]; exact d2, nI_1] at e4
  have ag : ∀ a b, ¬ (a = k ∧ b = 2) → ¬ (a = 4 * k - 18 + 0 - 1 ∧ b = D.2.1.length) → ¬ (a = 4 * k - 18 + 1 - 1 ∧ b = D.2.1.length) → s4 a b = s1 a b := fun a b z1 z2 z3 => by rw [e4, up_ne _ _ z1, e3, up_ne _ _ z3, e2, up_ne _ _ z2]
  refine ⟨g1.fr (fun a b hab => ag a b (by omega) (by omega) (by omega)), ⟨by rw [ag _ _ (by omega) (by omega) (by omega)]; exact a1, by rw [ag _ _ (by omega) (by omega) (by omega)]; exact a2, by rw [ag _ _ (by omega) (by omega) (by omega)]; exact a3, fun z => by rw [ag _ _ (by omega) (by omega) (by omega)]; exact a4 z⟩, ⟨by rw [ag _ _ (by omega) (by omega) (by omega)]; exact d0, by rw [ag _ _ (by omega) (by omega) (by omega)]; exact d1, by rw [e4, up_self]; simp, by rw [ag _ _ (by omega) (by omega) (by omega)]; exact d3, fun j x hx => ?_, fun j x hx => ?_⟩, fun a b hab => by rw [ag _ _ (by omega) (by omega) (by omega)]; exact g4 a b hab⟩
  · rcases app_get hx with ⟨z1, z2⟩ | ⟨z1, z2⟩
    · rw [ag _ _ (by omega) (by omega) (by omega), ag _ _ (by omega) (by omega) (by omega)]; exact d4' j x z2
    · subst z1
      rw [z2]
      exact ⟨by rw [e4, up_ne _ _ (by omega), e3, up_ne _ _ (by omega), e2, up_self], by rw [e4, up_ne _ _ (by omega), e3, up_self]⟩
  · rw [ag _ _ (by omega) (by omega) (by omega), ag _ _ (by omega) (by omega) (by omega)]; exact d5 j x hx
theorem CV.rent {σ0 : ST} {B : Nat → Nat} {l k n p : Nat} {D : Dr} {t : Tok} {σ : ST} (hk : k = 7 ∨ k = 8) (h : CV σ0 B l k n D t σ) (ht : tkOk B l p t) (hD : dOk D) {Q : Int32 → ST → Prop} (h3 : 5 ≤ D.2.2.length → ∀ τ, FV8 σ0 k (3, t.2.1) τ → Q 0 τ) (h0 : ¬ 5 ≤ D.2.2.length → ∀ f τ, rPu B l (lne D.2.2) 99999 t = .inl f → FV8 σ0 k f τ → Q 0 τ) (h1 : ¬ 5 ≤ D.2.2.length → ∀ r τ, rPu B l (lne D.2.2) 99999 t = .inr r → CV σ0 B l k n (D.1, D.2.1, D.2.2 ++ [(r.1, r.2.1)]) r.2.2 τ → Q 1 τ) : w_X2_readRent σ k Q := by
  unfold w_X2_readRent
  rw [h.2.2.1.2.2.2.1, lt5 hD.2.2.1]
  refine ⟨fun c => ?_, fun c => h.ref (m := 3) rfl (fun τ hτ => ⟨nar0, h3 (by omega) τ hτ⟩)⟩
  have go : w_X2_readPart σ (nI (lne D.2.2)) 99999 (fun r2 s2 => ((¬ r2 = 0 → (w_X3_addRent s2 k (s2 4 5) (s2 4 6) (fun s3 => Q 1 s3))) ∧ (r2 = 0 → (Q 0 s2)))) := by
    refine h.pt (lo := lne D.2.2) (hi := 99999) hk ht (by have := lne_le hD; omega) (by decide) (fun f τ ef hf => tf0 (h0 (by omega) f τ ef hf)) (fun r s1 er c1 v5 v6 => tf1 ?_)
    obtain ⟨g1, ⟨a1, a2, a3, a4⟩, ⟨d0, d1, d2, d3, d4', d5⟩, g4⟩ := c1
    have hv : vp_in (nI D.2.2.length) 5 := vp_in_nI c (by decide)
    have hcl := nI_clamp (show D.2.2.length < 2 ^ 31 by omega)
    unfold w_X3_addRent
    rw [d3, hcl, v5, v6]
    refine ⟨hv, fun s2 e2 => ?_⟩
    rw [show s2 k 3 = nI D.2.2.length by rw [e2, up_ne _ _ (by omega)]; exact d3, hcl]
    refine ⟨hv, fun s3 e3 s4 e4 => h1 (by omega) r s4 er ?_⟩
    rw [show s3 k 3 = nI D.2.2.length by rw [e3, up_ne _ _ (by omega), e2, up_ne _ _ (by omega)]; exact d3, nI_1] at e4
    have ag : ∀ a b, ¬ (a = k ∧ b = 3) → ¬ (a = 4 * k - 18 + 2 - 1 ∧ b = D.2.2.length) → ¬ (a = 4 * k - 18 + 3 - 1 ∧ b = D.2.2.length) → s4 a b = s1 a b := fun a b z1 z2 z3 => by rw [e4, up_ne _ _ z1, e3, up_ne _ _ z3, e2, up_ne _ _ z2]
    refine ⟨g1.fr (fun a b hab => ag a b (by omega) (by omega) (by omega)), ⟨by rw [ag _ _ (by omega) (by omega) (by omega)]; exact a1, by rw [ag _ _ (by omega) (by omega) (by omega)]; exact a2, by rw [ag _ _ (by omega) (by omega) (by omega)]; exact a3, fun z => by rw [ag _ _ (by omega) (by omega) (by omega)]; exact a4 z⟩, ⟨by rw [ag _ _ (by omega) (by omega) (by omega)]; exact d0, by rw [ag _ _ (by omega) (by omega) (by omega)]; exact d1, by rw [ag _ _ (by omega) (by omega) (by omega)]; exact d2, by rw [e4, up_self]; simp, fun j x hx => ?_, fun j x hx => ?_⟩, fun a b hab => by rw [ag _ _ (by omega) (by omega) (by omega)]; exact g4 a b hab⟩
    · rw [ag _ _ (by omega) (by omega) (by omega), ag _ _ (by omega) (by omega) (by omega)]; exact d4' j x hx
    · rcases app_get hx with ⟨z1, z2⟩ | ⟨z1, z2⟩
      · rw [ag _ _ (by omega) (by omega) (by omega), ag _ _ (by omega) (by omega) (by omega)]; exact d5 j x z2
      · subst z1
        rw [z2]
        exact ⟨by rw [e4, up_ne _ _ (by omega), e3, up_ne _ _ (by omega), e2, up_self], by rw [e4, up_ne _ _ (by omega), e3, up_self]⟩
  unfold w_X3_leastNextEnd
  rw [h.2.2.1.2.2.2.1]
  refine ⟨fun c0 => ?_, fun c0 => ?_⟩
  · have hl : D.2.2.length ≠ 0 := fun z => c0 (by rw [z]; rfl)
    have e1 : nI D.2.2.length - 1 = nI (D.2.2.length - 1) := pk_sub (b := 1) (by omega)
    rw [e1, nI_clamp (show D.2.2.length - 1 < 2 ^ 31 by omega)]
    refine ⟨vp_in_nI (by omega) (by decide), ?_⟩
    have hg : D.2.2[D.2.2.length - 1]? = some (D.2.2.getD (D.2.2.length - 1) (0, 0)) := by
      rw [List.getD_eq_getElem?_getD, List.getElem?_eq_getElem (show D.2.2.length - 1 < D.2.2.length by omega)]
      rfl
    rw [(h.2.2.1.2.2.2.2.2 _ _ hg).1, nI_1]
    unfold lne at go
    rw [if_neg hl] at go
    exact go
  · have hl : D.2.2.length = 0 := by
      have := (nI_eq (a := D.2.2.length) (b := 0) (by omega) (by decide)).mp c0
      exact this
    unfold lne at go
    rw [if_pos hl] at go
    exact go
theorem CV.ln {σ0 : ST} {B : Nat → Nat} {l k n p : Nat} {D : Dr} {t : Tok} {σ : ST} (hk : k = 7 ∨ k = 8) (h : CV σ0 B l k n D t σ) (ht : tkOk B l p t) (hD : dOk D) {Q : Int32 → ST → Prop} (h0 : ∀ f τ, rLu B l D t = .inl f → FV8 σ0 k f τ → Q 0 τ) (h1 : ∀ r τ, rLu B l D t = .inr r → CV σ0 B l k n r.1 r.2 τ → Q 1 τ) : w_X2_readLine σ k Q := by
  unfold rLu at h0 h1
  refine h.iw ht (by omega) (fun w => tt1 ?_) (fun w => tt0 ?_)
  · rw [if_pos w] at h0 h1
    exact h.hd hk ht (fun f τ ef hf => ⟨nar0, h0 f τ (by simp only [ef]) hf⟩) (fun r τ er hr => ⟨nar1, h1 ((r.1, D.2.1, D.2.2), r.2) τ (by simp only [er]) hr⟩)
  · rw [if_neg (by rw [w]; decide)] at h0 h1
    refine h.iw ht (by omega) (fun w1 => tt1 ?_) (fun w1 => tt0 ?_)
    · rw [if_pos w1] at h0 h1
      refine h.rain hk ht hD (fun c τ hf => ⟨nar0, h0 _ τ (by rw [if_pos c]) hf⟩) (fun c f τ ef hf => ⟨nar0, h0 f τ (by rw [if_neg c]; simp only [ef]) hf⟩) (fun c r τ er hr => ⟨nar1, h1 ((D.1, D.2.1 ++ [(r.1, r.2.1)], D.2.2), r.2.2) τ (by rw [if_neg c]; simp only [er]) hr⟩)
    · rw [if_neg (by rw [w1]; decide)] at h0 h1
      refine h.iw ht (by omega) (fun w2 => tt1 ?_) (fun w2 => tt0 ?_)
      · rw [if_pos w2] at h0 h1
        refine h.rent hk ht hD (fun c τ hf => ⟨nar0, h0 _ τ (by rw [if_pos c]) hf⟩) (fun c f τ ef hf => ⟨nar0, h0 f τ (by rw [if_neg c]; simp only [ef]) hf⟩) (fun c r τ er hr => ⟨nar1, h1 ((D.1, D.2.1, D.2.2 ++ [(r.1, r.2.1)]), r.2.2) τ (by rw [if_neg c]; simp only [er]) hr⟩)
      · rw [if_neg (by rw [w2]; decide)] at h0 h1
        exact h.ref (m := 1) rfl (fun τ hτ => ⟨nar0, h0 _ τ rfl hτ⟩)
theorem end0 {B : Nat → Nat} {l p : Nat} {t : Tok} (ht : tkOk B l p t) (h : l ≤ t.2.1) : t.1 = 0 := by
  obtain ⟨a1, a2, a3, a4, a5, -⟩ := ht
  rcases Nat.eq_zero_or_pos t.1 with z | z
  · exact z
  · have := a5 (by omega); omega
theorem CV.all {σ0 : ST} {B : Nat → Nat} {l k : Nat} (hl : l ≤ 300) (hk : k = 7 ∨ k = 8) {K : ST → Prop} {Q : Int32 → ST → Prop} : ∀ (f n p : Nat) (D : Dr) (t : Tok) (σ : ST), CV σ0 B l k n D t σ → tkOk B l p t → dOk D → l ≤ t.2.1 + f → n ≤ t.2.1 → (∀ g τ, rAl B l f n D t = .inl g → FV8 σ0 k g τ → Q 0 τ) → (∀ r t' τ, rAl B l f n D t = .inr r → dOk r.2 → CV σ0 B l k r.1 r.2 t' τ → K τ) → w_X2_readInto_L11 k K Q (f + 1) σ (nI n) := by
  intro f
  induction f with
  | zero =>
    intro n p D t σ h ht hD hf hn h0 h1
    have hz := end0 ht (by omega)
    have hK := h1 (n, D) t σ rfl hD h
    exact ⟨fun _ => hK, fun _ => ⟨fun _ => hK, fun z => absurd (by rw [h.2.1.1, hz]; rfl) z⟩⟩
  | succ f ih =>
    intro n p D t σ h ht hD hf hn h0 h1
    unfold rAl at h0 h1
    have hn300 : (300 : Int32) ≤ nI n ↔ 300 ≤ n := nI_leI (a := 300) (by decide) (by have := ht.2.1; have := ht.2.2.1; omega)
    have e0 : nI t.1 = 0 ↔ t.1 = 0 := nI_eq (b := 0) (by have := ht.2.2.2.1; omega) (by decide)
    have hend : t.1 = 0 → K σ := fun z => by
      rw [if_pos z] at h1
      exact h1 (n, D) t σ rfl hD h
    refine ⟨fun z => hend (end0 ht (by have := hn300.mp z; omega)), fun _ => ?_⟩
    rw [h.2.1.1, e0]
    refine ⟨hend, fun z => ?_⟩
    rw [if_neg z] at h0 h1
    refine h.ln hk ht hD (fun g τ eg hg => tf0 (h0 g τ (by simp only [rLn_inl eg]) hg)) (fun r τ er hr => tf1 ?_)
    have ok1 := rLu_ok ht er
    refine hr.sg hk ok1 (fun g τ2 eg hg => h0 g τ2 (by rw [rLn_inr er]; simp only [eg]) hg) (fun t' τ2 et hr2 s5 e4 x ex => ?_)
    have erl : rLn B l D t = .inr (r.1, t') := by rw [rLn_inr er]; simp only [et]
    simp only [erl] at h0 h1
    rw [ex, nI_1]
    obtain ⟨o1, o2⟩ : tkOk B l t.2.2 t' ∧ dOk r.1 := rLn_ok ht hD erl
    have hlt := ht.2.2.2.2.1 z
    refine ih (n + 1) t.2.2 r.1 t' s5 ?_ o1 o2 (by have := o1.1; omega) (by have := o1.1; omega) h0 h1
    obtain ⟨g1, ⟨a1, a2, a3, a4⟩, ⟨d0, d1, d2, d3, d4', d5⟩, g4⟩ := hr2
    rw [d0, nI_1] at e4
    refine ⟨g1.fr (fun a b hab => by rw [e4, up_ne _ _ (by omega)]), ⟨by rw [e4, up_ne _ _ (by omega)]; exact a1, by rw [e4, up_ne _ _ (by omega)]; exact a2, by rw [e4, up_ne _ _ (by omega)]; exact a3, fun z => by rw [e4, up_ne _ _ (by omega)]; exact a4 z⟩, ⟨by rw [e4, up_self], by rw [e4, up_ne _ _ (by omega)]; exact d1, by rw [e4, up_ne _ _ (by omega)]; exact d2, by rw [e4, up_ne _ _ (by omega)]; exact d3, fun j x hx => ?_, fun j x hx => ?_⟩, fun a b hab => by rw [e4, up_ne _ _ (by omega)]; exact g4 a b hab⟩
    · rw [e4, up_ne _ _ (by omega), up_ne _ _ (by omega)]; exact d4' j x hx
    · rw [e4, up_ne _ _ (by omega), up_ne _ _ (by omega)]; exact d5 j x hx
/-- what a text answers -/
def txt (B : Nat → Nat) (l : Nat) : Fl ⊕ (Nat × Dr) := rAl B l l 0 (0, [], []) (tk B l 0)
theorem rules8 {B : Nat → Nat} {l k : Nat} {σ : ST} (hk : k = 7 ∨ k = 8) (h11 : σ 0 11 = nI (k - 7)) (h12 : σ 0 12 = nI (8 - k)) (hT : TV B l σ) {Q : Int32 → ST → Prop}
    (h0 : ∀ f τ, txt B l = .inl f → τ 0 13 = nI f.1 → τ 5 1 = 0 → (∀ a b, ¬ tR (15 - k) a → ¬ (a = 0 ∧ b = 13) → ¬ (a = 5 ∧ b = 1) → τ a b = σ a b) → Q ((-1000100) - nI f.2) τ)
    (h1 : ∀ r τ, txt B l = .inr r → dOk r.2 → DV8 (15 - k) r.1 r.2 τ → τ 0 11 = nI (8 - k) → τ 0 12 = nI (k - 7) → τ 5 1 = 0 → (∀ a b, ¬ tR (15 - k) a → ¬ (a = 0 ∧ (b = 11 ∨ b = 12)) → ¬ (a = 5 ∧ b = 1) → τ a b = σ a b) → Q (nI r.1) τ) : w_X8_rules σ Q := by
  have hk2 : 15 - k = 7 ∨ 15 - k = 8 := by omega
  have c12 : (nI (8 - k)).toNatClampNeg = 8 - k := nI_clamp (by omega)
  have c11 : (nI (k - 7)).toNatClampNeg = k - 7 := nI_clamp (by omega)
  unfold w_X8_rules
  rw [h12, c12]
  refine ⟨by omega, fun k1 ek1 s1 e1 s2 e2 s3 e3 s4 e4 => ?_⟩
  obtain rfl : k1 = 15 - k := by omega
  have ag4 : ∀ a b, a ≠ 15 - k → s4 a b = σ a b := fun a b z => by rw [e4, up_ne _ _ (by omega), e3, up_ne _ _ (by omega), e2, up_ne _ _ (by omega), e1, up_ne _ _ (by omega)]
  rw [show s4 0 12 = nI (8 - k) by rw [ag4 0 12 (by omega)]; exact h12, c12]
  refine ⟨by omega, fun k2 ek2 => ?_⟩
  obtain rfl : k2 = 15 - k := by omega
  intro s5 e5
  have hD0 : DV8 (15 - k) 0 (0, [], []) s5 := by
    refine ⟨by rw [e5, up_ne _ _ (by omega), e4, up_ne _ _ (by omega), e3, up_ne _ _ (by omega), e2, up_ne _ _ (by omega), e1, up_self]; rfl, by rw [e5, up_ne _ _ (by omega), e4, up_ne _ _ (by omega), e3, up_ne _ _ (by omega), e2, up_self]; rfl, by rw [e5, up_ne _ _ (by omega), e4, up_ne _ _ (by omega), e3, up_self]; rfl, by rw [e5, up_ne _ _ (by omega), e4, up_self]; rfl, fun j x hx => absurd hx (by simp), fun j x hx => absurd hx (by simp)⟩
  have ag5 : ∀ a b, a ≠ 15 - k → ¬ (a = 4 ∧ b = 3) → s5 a b = σ a b := fun a b z z2 => by rw [e5, up_ne _ _ z2]; exact ag4 a b z
  have T5 : TV B l s5 := hT.fr (fun a b hab => ag5 a b (by omega) (by omega))
  have hl := hT.1
  refine adv8 (p := 0) (by omega) T5 (by rw [e5, up_self]; rfl) (fun s6 t6 a6 => ?_)
  have C6 : CV σ B l (15 - k) 0 (0, [], []) (tk B l 0) s6 := ⟨T5.fr (fun a b hab => a6 a b (by omega)), t6, hD0.fr hk2 (fun a b hab => a6 a b (by omega)), fun a b hab => by rw [a6 a b (by omega)]; exact ag5 a b (by omega) (by omega)⟩
  refine ⟨l + 1, CV.all hl hk2 l 0 0 (0, [], []) (tk B l 0) s6 C6 (tk_ok (by omega)) ⟨by simp, by simp, by simp, fun x hx => absurd hx (by simp)⟩ (by omega) (by omega) (fun g τ eg hg s8 e8 => ?_) (fun r t' τ er hdr hr s8 e8 => ?_)⟩
  · refine tf0 (fun s9 e9 => ?_)
    obtain ⟨f7, f8, ff⟩ := hg
    have x8 : s9 4 8 = nI g.2 := by rw [e9, up_ne _ _ (by omega), e8, up_ne _ _ (by omega)]; exact f8
    rw [x8]
    refine h0 g s9 eg ?_ ?_ (fun a b z1 z2 z3 => ?_)
    · rw [e9, up_self, e8, up_ne _ _ (by omega)]; exact f7
    · rw [e9, up_ne _ _ (by omega), e8, up_self]
    · rw [e9, up_ne _ _ (by omega), e8, up_ne _ _ (by omega)]; exact ff a b z1
  · refine tf1 ?_
    obtain ⟨g1, g2, g3, g4⟩ := hr
    have y11 : s8 0 11 = nI (k - 7) := by rw [e8, up_ne _ _ (by omega), g4 0 11 (by omega)]; exact h11
    have y12 : s8 0 12 = nI (8 - k) := by rw [e8, up_ne _ _ (by omega), g4 0 12 (by omega)]; exact h12
    rw [y11, y12, c11, c12]
    refine ⟨by omega, fun k3 ek3 => ⟨by omega, fun k4 ek4 s9 e9 s10 e10 => ?_⟩⟩
    rw [show k4 - 7 = 8 - k by omega] at e9
    rw [show k3 - 7 = k - 7 by omega] at e10
    have z11 : s10 0 11 = nI (8 - k) := by rw [e10, up_ne _ _ (by omega), e9, up_self]
    rw [z11, c12]
    refine ⟨by omega, fun k5 ek5 => ?_⟩
    obtain rfl : k5 = 15 - k := by omega
    have D10 : DV8 (15 - k) r.1 r.2 s10 := by
      obtain ⟨d0, d1, d2, d3, d4', d5⟩ := g3
      have ag : ∀ a b, 7 ≤ a → s10 a b = τ a b := fun a b z => by rw [e10, up_ne _ _ (by omega), e9, up_ne _ _ (by omega), e8, up_ne _ _ (by omega)]
      refine ⟨by rw [ag _ _ (by omega)]; exact d0, by rw [ag _ _ (by omega)]; exact d1, by rw [ag _ _ (by omega)]; exact d2, by rw [ag _ _ (by omega)]; exact d3, fun j x hx => ?_, fun j x hx => ?_⟩
      · rw [ag _ _ (by omega), ag _ _ (by omega)]; exact d4' j x hx
      · rw [ag _ _ (by omega), ag _ _ (by omega)]; exact d5 j x hx
    rw [D10.1]
    refine h1 r s10 er hdr D10 z11 (by rw [e10, up_self]) ?_ (fun a b z1 z2 z3 => ?_)
    · rw [e10, up_ne _ _ (by omega), e9, up_ne _ _ (by omega), e8, up_self]
    · rw [e10, up_ne _ _ (by omega), e9, up_ne _ _ (by omega), e8, up_ne _ _ (by omega)]; exact g4 a b z1
