/-! rules: the reference's lines, and the call -/
theorem RV.hold {σ0 : ST} {B : Nat → Nat} {l h : Nat} {D : Dr} {t : Tok} {σ τ : ST} (c : RV σ0 B l D t σ) {v : Int32} (hv : v = nI h) (e : τ = up σ 63 34 v) : RV σ0 B l (h, D.2.1, D.2.2) t τ := by
  obtain ⟨g1, ⟨k1, k2, k3, k4'⟩, ⟨d1, d2, d3, d4', d5⟩, g4, g5⟩ := c
  have ag : ∀ a b, ¬ (a = 63 ∧ b = 34) → τ a b = σ a b := fun a b z => by rw [e, up_ne _ _ z]
  refine ⟨g1.fr (fun a b hab => ag a b (by omega)), ⟨by rw [ag _ _ (by omega)]; exact k1, by rw [ag _ _ (by omega)]; exact k2, by rw [ag _ _ (by omega)]; exact k3, by rw [ag _ _ (by omega)]; exact k4'⟩, ⟨by rw [e, up_self]; exact hv, by rw [ag _ _ (by omega)]; exact d2, by rw [ag _ _ (by omega)]; exact d3, fun j x hx => ?_, fun j x hx => ?_⟩, by rw [ag _ _ (by omega)]; exact g4, fun a b hab => by rw [ag a b (by omega)]; exact g5 a b hab⟩
  · rw [ag _ _ (by omega), ag _ _ (by omega)]; exact d4' j x hx
  · rw [ag _ _ (by omega), ag _ _ (by omega)]; exact d5 j x hx
theorem isw_x {B : Nat → Nat} {t : Tok} {i j : Nat} (hi : isw B t i = true) (hj : isw B t j = true) (q : Nat) (h1 : q < lenW i) (h2 : q < lenW j) (hne : chW i q ≠ chW j q) : False := by
  have a1 := (isw_e.mp hi).2.2 q h1
  have a2 := (isw_e.mp hj).2.2 q h2
  exact hne (by rw [← a1, ← a2])
theorem isw_01 {B : Nat → Nat} {t : Tok} (h : isw B t 1 = true) : ¬ isw B t 0 = true := fun z => isw_x h z 0 (by decide) (by decide) (by decide)
theorem isw_02 {B : Nat → Nat} {t : Tok} (h : isw B t 2 = true) : ¬ isw B t 0 = true := fun z => isw_x h z 0 (by decide) (by decide) (by decide)
theorem isw_12 {B : Nat → Nat} {t : Tok} (h : isw B t 2 = true) : ¬ isw B t 1 = true := fun z => isw_x h z 1 (by decide) (by decide) (by decide)
/-- behind 'hold' -/
theorem RV.hd {σ0 : ST} {B : Nat → Nat} {l p : Nat} {D : Dr} {t : Tok} {s2 : ST} (h : RV σ0 B l D (nx B l t) s2) (ht : tkOk B l p t) {Q : ST → Prop} (h0 : ∀ f t' τ, rHd B l t = .inl f → FR σ0 B l f t' τ → Q τ) (h1 : ∀ r τ, rHd B l t = .inr r → RV σ0 B l (r.1, D.2.1, D.2.2) r.2 τ → Q τ) :
    (w_X9_word s2 (fun r9 s18 => ((¬ (lg_cmp r9 2054123109) = 0 → (((¬ (lg_cmp r9 6385273) = 0 → (∀ s19 : ST, s19 = up s18 63 34 0 → ((((lg_cmp r9 2054123109) = 0 → (w_X9_readLine_J155 Q s19 1)) ∧ (¬ ((lg_cmp r9 2054123109) = 0) → ((((lg_cmp r9 6385273) = 0 → (w_X9_readLine_J155 Q s19 1)) ∧ (¬ ((lg_cmp r9 6385273) = 0) → (((¬ (lg_cmp r9 482854658917) = 0 → (w_X9_readLine_J155 Q s19 0)) ∧ ((lg_cmp r9 482854658917) = 0 → (w_X9_readLine_J155 Q s19 1)))))))))))) ∧ ((lg_cmp r9 6385273) = 0 → (∀ s21 : ST, s21 = up s18 63 34 2 → ((((lg_cmp r9 2054123109) = 0 → (w_X9_readLine_J155 Q s21 1)) ∧ (¬ ((lg_cmp r9 2054123109) = 0) → ((((lg_cmp r9 6385273) = 0 → (w_X9_readLine_J155 Q s21 1)) ∧ (¬ ((lg_cmp r9 6385273) = 0) → (((¬ (lg_cmp r9 482854658917) = 0 → (w_X9_readLine_J155 Q s21 0)) ∧ ((lg_cmp r9 482854658917) = 0 → (w_X9_readLine_J155 Q s21 1))))))))))))))) ∧ ((lg_cmp r9 2054123109) = 0 → (∀ s22 : ST, s22 = up s18 63 34 1 → ((((lg_cmp r9 2054123109) = 0 → (w_X9_readLine_J155 Q s22 1)) ∧ (¬ ((lg_cmp r9 2054123109) = 0) → ((((lg_cmp r9 6385273) = 0 → (w_X9_readLine_J155 Q s22 1)) ∧ (¬ ((lg_cmp r9 6385273) = 0) → (((¬ (lg_cmp r9 482854658917) = 0 → (w_X9_readLine_J155 Q s22 0)) ∧ ((lg_cmp r9 482854658917) = 0 → (w_X9_readLine_J155 Q s22 1))))))))))))))) := by
  have n1 := nx_ok ht
  have n2 := nx_ok n1
  unfold rHd at h0 h1
  refine h.word n1 ?_
  rw [isw_c n1 (i := 3) (C := 2054123109) (by omega) rfl, isw_c n1 (i := 4) (C := 6385273) (by omega) rfl, isw_c n1 (i := 5) (C := 482854658917) (by omega) rfl]
  have go : ∀ (hh : Nat) (v : Int32) (s6 : ST), hw B (nx B l t) = some hh → v = nI hh → s6 = up s2 63 34 v → w_X9_readLine_J155 Q s6 1 := by
    intro hh v s6 eh ev e6
    simp only [eh] at h0 h1
    exact (h.hold ev e6).need1 n1 (fun s7 c7 => c7.sg n2 (fun f τ ef hf => h0 f _ τ (by simp only [ef]) hf) (fun t' τ et ct => h1 (hh, t') τ (by simp only [et]) ct))
  refine ⟨fun w3 => ⟨fun w4 s19 e19 => ⟨fun z => absurd z w3, fun _ => ⟨fun z => absurd z w4, fun _ => ⟨fun w5 => ?_, fun w5 => go 0 0 s19 (by unfold hw; rw [if_neg w3, if_neg w4, if_pos w5]) rfl e19⟩⟩⟩, fun w4 s21 e21 => ⟨fun z => absurd z w3, fun _ => ⟨fun _ => go 2 2 s21 (by unfold hw; rw [if_neg w3, if_pos w4]) rfl e21, fun z => absurd w4 z⟩⟩⟩, fun w3 s22 e22 => ⟨fun _ => go 1 1 s22 (by unfold hw; rw [if_pos w3]) rfl e22, fun z => absurd w3 z⟩⟩
  have hn : hw B (nx B l t) = none := by unfold hw; rw [if_neg w3, if_neg w4, if_neg w5]
  simp only [hn] at h0
  exact (h.hold (h := 0) rfl e19).need0 n1 (fun τ hτ => hτ.sg (h0 _ _ τ rfl hτ))
theorem RV.j72 {σ0 : ST} {B : Nat → Nat} {l p : Nat} {D : Dr} {t : Tok} {σ : ST} (h : RV σ0 B l D t σ) (ht : tkOk B l p t) (hD : dOk D) (hr : isw B t 1 = true → ¬ 5 ≤ D.2.1.length) (hq : isw B t 2 = true → ¬ 5 ≤ D.2.2.length) (hw' : isw B t 0 = true ∨ isw B t 1 = true ∨ isw B t 2 = true) {Q : ST → Prop} (h0 : ∀ f t' τ, rLn B l D t = .inl f → FR σ0 B l f t' τ → Q τ) (h1 : ∀ r τ, rLn B l D t = .inr r → RV σ0 B l r.1 r.2 τ → Q τ) : w_X9_readLine_J72 Q σ (lN (wv B t)) 1 := by
  refine h.need1 ht (fun s2 c2 => ⟨fun _ => ?_, fun z => absurd (by rw [c2.2.2.2.1]; exact Int32.le_refl _) z⟩)
  rw [isw_c ht (i := 0) (C := 1752132708) (by omega) rfl, isw_c ht (i := 1) (C := 1918986606) (by omega) rfl]
  unfold rLn at h0 h1
  refine ⟨fun w0 => ⟨fun w1 => ⟨fun _ => ?_, fun z => absurd rfl z⟩, fun w1 => ⟨fun z => absurd z (by decide), fun _ => ⟨fun z => absurd z (by decide), fun _ => ?_⟩⟩⟩, fun w0 => ?_⟩
  · have w2 : isw B t 2 = true := by
      rcases hw' with z | z | z
      · exact absurd z w0
      · exact absurd z w1
      · exact z
    have hlen := hq w2
    rw [if_neg w0, if_neg w1, if_pos w2, if_neg hlen] at h0 h1
    have hlne := lne_le hD
    have go : w_X9_readLine_J223 Q s2 0 (nI (lne D.2.2)) 99999 := c2.pt (lo := lne D.2.2) (hi := 99999) (v3 := 0) ht (by omega) (by decide) (fun _ => by omega) (fun z => absurd rfl z) (fun f t' τ ef hf => h0 f t' τ (by simp only [ef]) hf) (fun r τ er cr => h1 ((D.1, D.2.1, D.2.2 ++ [(r.1, r.2.1)]), r.2.2) τ (by simp only [er]) cr)
    rw [c2.2.2.1.2.2.1]
    unfold lne at go
    refine ⟨fun z0 => ?_, fun z0 => ⟨fun _ => ?_, fun z => absurd rfl z⟩⟩
    · have hl : D.2.2.length ≠ 0 := fun z => z0 (by rw [z]; rfl)
      have e1 : nI D.2.2.length - 1 = nI (D.2.2.length - 1) := pk_sub (b := 1) (by omega)
      rw [e1, nI_clamp (show D.2.2.length - 1 < 2 ^ 31 by omega)]
      refine ⟨vp_in_nI (by omega) (by decide), fun x1 ex1 => ⟨fun _ => ?_, fun z => absurd rfl z⟩⟩
      have hg : D.2.2[D.2.2.length - 1]? = some (D.2.2.getD (D.2.2.length - 1) (0, 0)) := by
        rw [List.getD_eq_getElem?_getD, List.getElem?_eq_getElem (show D.2.2.length - 1 < D.2.2.length by omega)]
        rfl
      rw [(c2.2.2.1.2.2.2.2 _ _ hg).1, nI_1] at ex1
      rw [ex1]
      rw [if_neg hl] at go
      exact go
    · have hl : D.2.2.length = 0 := (nI_eq (a := D.2.2.length) (b := 0) (by omega) (by decide)).mp z0
      rw [if_pos hl] at go
      exact go
  · have hlen := hr w1
    rw [if_neg w0, if_pos w1, if_neg hlen] at h0 h1
    exact c2.pt (lo := 1) (hi := 60) (v3 := 1) ht (by decide) (by decide) (fun z => absurd z (by decide)) (fun _ => by omega) (fun f t' τ ef hf => h0 f t' τ (by simp only [ef]) hf) (fun r τ er cr => h1 ((D.1, D.2.1 ++ [(r.1, r.2.1)], D.2.2), r.2.2) τ (by simp only [er]) cr)
  · rw [if_pos w0] at h0 h1
    exact c2.hd ht (fun f t' τ ef hf => h0 f t' τ (by simp only [ef]) hf) (fun r τ er cr => h1 ((r.1, D.2.1, D.2.2), r.2) τ (by simp only [er]) cr)
theorem eq5 {n : Nat} (h : n ≤ 5) : nI n = 5 ↔ 5 ≤ n := by
  have : nI n = 5 ↔ n = 5 := nI_eq (b := 5) (by omega) (by decide)
  rw [this]
  omega
theorem RV.ln {σ0 : ST} {B : Nat → Nat} {l p : Nat} {D : Dr} {t : Tok} {σ : ST} (h : RV σ0 B l D t σ) (ht : tkOk B l p t) (hD : dOk D) {Q : ST → Prop} (h0 : ∀ f t' τ, rLn B l D t = .inl f → FR σ0 B l f t' τ → Q τ) (h1 : ∀ r τ, rLn B l D t = .inr r → RV σ0 B l r.1 r.2 τ → Q τ) : w_X9_readLine σ Q := by
  have j42 : (isw B t 1 = true → ¬ 5 ≤ D.2.1.length) → (isw B t 2 = true → ¬ 5 ≤ D.2.2.length) → w_X9_readLine_J42 Q σ (lN (wv B t)) := by
    intro hr hq
    unfold w_X9_readLine_J42
    rw [isw_c ht (i := 0) (C := 1752132708) (by omega) rfl, isw_c ht (i := 1) (C := 1918986606) (by omega) rfl, isw_c ht (i := 2) (C := 1919250036) (by omega) rfl]
    refine ⟨fun w0 => h.j72 ht hD hr hq (Or.inl w0) h0 h1, fun w0 => ⟨fun w1 => h.j72 ht hD hr hq (Or.inr (Or.inl w1)) h0 h1, fun w1 => ⟨fun w2 => ?_, fun w2 => h.j72 ht hD hr hq (Or.inr (Or.inr w2)) h0 h1⟩⟩⟩
    refine h.need0 ht (fun τ hτ => ⟨fun z => absurd z hτ.nle, fun _ => h0 _ _ τ ?_ hτ⟩)
    unfold rLn
    rw [if_neg w0, if_neg w1, if_neg w2]
  refine h.word ht ?_
  rw [isw_c ht (i := 1) (C := 1918986606) (by omega) rfl, isw_c ht (i := 2) (C := 1919250036) (by omega) rfl, h.2.2.1.2.1, h.2.2.1.2.2.1, eq5 hD.2.1, eq5 hD.2.2.1]
  refine ⟨fun w1 => ⟨fun w2 => j42 (fun z => absurd z w1) (fun z => absurd z w2), fun w2 => ⟨fun z => j42 (fun z => absurd z w1) (fun _ => z), fun z => ?_⟩⟩, fun w1 => ⟨fun z => ?_, fun z => ⟨fun w2 => j42 (fun _ => z) (fun z => absurd z w2), fun w2 => absurd w1 (isw_12 w2)⟩⟩⟩
  · refine h.bad ht (m := 3) (by omega) (by omega) rfl (fun τ hτ => hτ.j42 (h0 _ _ τ ?_ hτ))
    unfold rLn
    rw [if_neg (isw_02 w2), if_neg w1, if_pos w2, if_pos z]
  · refine h.bad ht (m := 3) (by omega) (by omega) rfl (fun τ hτ => hτ.j42 (h0 _ _ τ ?_ hτ))
    unfold rLn
    rw [if_neg (isw_01 w1), if_pos w1, if_pos z]
theorem RV.all {σ0 : ST} {B : Nat → Nat} {l : Nat} {K : ST → Int32 → Prop} {Q : Int32 → ST → Prop} : ∀ (f n p : Nat) (D : Dr) (t : Tok) (σ : ST), RV σ0 B l D t σ → tkOk B l p t → dOk D → l ≤ t.2.1 + f → (∀ g t' τ x, rAl B l f n D t = .inl g → FR σ0 B l g t' τ → K τ x) → (∀ r t' τ, rAl B l f n D t = .inr r → dOk r.2 → RV σ0 B l r.2 t' τ → K τ (nI r.1)) → w_X9_rules_L49 K Q (f + 2) σ (nI n) := by
  intro f
  induction f with
  | zero =>
    intro n p D t σ h ht hD hf h0 h1
    have hz := end0 ht (by omega)
    have hK := h1 (n, D) t σ rfl hD h
    exact ⟨fun z => absurd h.2.2.2.1 z, fun _ => ⟨fun _ => hK, fun z => absurd (by rw [h.2.1.1]; exact (rk_e ht.2.2.2.1).2.2.2.mpr hz) z⟩⟩
  | succ f ih =>
    intro n p D t σ h ht hD hf h0 h1
    unfold rAl at h0 h1
    refine ⟨fun z => absurd h.2.2.2.1 z, fun _ => ?_⟩
    rw [h.2.1.1, (rk_e ht.2.2.2.1).2.2.2]
    refine ⟨fun z => ?_, fun z => ?_⟩
    · rw [if_pos z] at h1
      exact h1 (n, D) t σ rfl hD h
    · rw [if_neg z] at h0 h1
      have hlt := ht.2.2.2.2.1 z
      refine h.ln ht hD (fun g t' τ eg hg x ex => ?_) (fun r τ er hr x ex => ?_)
      · exact ⟨fun _ => h0 g t' τ x (by simp only [eg]) hg, fun w => absurd w hg.ne⟩
      · simp only [er] at h0 h1
        rw [ex, nI_1]
        obtain ⟨o1, o2⟩ := rLn_ok ht hD er
        exact ih (n + 1) t.2.2 r.1 r.2 τ hr o1 o2 (by have := o1.1; omega) h0 h1
theorem cp124 {v1 : Int32} {K : ST → Prop} {Q : Int32 → ST → Prop} : ∀ (d i : Nat) (σ : ST), i + d = 5 → (∀ τ, (∀ j, i ≤ j → j < 5 → τ 78 j = σ 82 j ∧ τ 79 j = σ 83 j ∧ τ 80 j = σ 84 j ∧ τ 81 j = σ 85 j) → (∀ a b, ¬ (78 ≤ a ∧ a ≤ 81 ∧ i ≤ b) → τ a b = σ a b) → K τ) → w_X9_rules_L124 v1 K Q (d + 1) σ (nI i) := by
  intro d
  induction d with
  | zero =>
    intro i σ hi hK
    obtain rfl : i = 5 := by omega
    exact ⟨fun _ => hK σ (fun j h1 h2 => by omega) (fun _ _ _ => rfl), fun z => absurd (by decide) z⟩
  | succ d ih =>
    intro i σ hi hK
    have hv : vp_in (nI i) 5 := vp_in_nI (by omega) (by decide)
    have e5 : (5 : Int32) ≤ nI i ↔ 5 ≤ i := nI_leI (a := 5) (by decide) (by omega)
    refine ⟨fun z => absurd (e5.mp z) (by omega), fun _ => ?_⟩
    rw [nI_clamp (show i < 2 ^ 31 by omega)]
    refine ⟨hv, hv, fun s15 e15 => ⟨hv, hv, fun s16 e16 => ⟨hv, hv, fun s17 e17 => ⟨hv, hv, fun s18 e18 x ex => ?_⟩⟩⟩⟩
    rw [ex, nI_1]
    have ag : ∀ a b, ¬ (78 ≤ a ∧ a ≤ 81 ∧ b = i) → s18 a b = σ a b := fun a b z => by rw [e18, up_ne _ _ (by omega), e17, up_ne _ _ (by omega), e16, up_ne _ _ (by omega), e15, up_ne _ _ (by omega)]
    refine ih (i + 1) s18 (by omega) (fun τ t1 t2 => hK τ (fun j h1 h2 => ?_) (fun a b z => ?_))
    · by_cases ej : j = i
      · subst ej
        rw [t2 78 j (by omega), t2 79 j (by omega), t2 80 j (by omega), t2 81 j (by omega)]
        refine ⟨?_, ?_, ?_, ?_⟩
        · rw [e18, up_ne _ _ (by omega), e17, up_ne _ _ (by omega), e16, up_ne _ _ (by omega), e15, up_self]
        · rw [e18, up_ne _ _ (by omega), e17, up_ne _ _ (by omega), e16, up_self, e15, up_ne _ _ (by omega)]
        · rw [e18, up_ne _ _ (by omega), e17, up_self, e16, up_ne _ _ (by omega), e15, up_ne _ _ (by omega)]
        · rw [e18, up_self, e17, up_ne _ _ (by omega), e16, up_ne _ _ (by omega), e15, up_ne _ _ (by omega)]
      · have := t1 j (by omega) h2
        rw [ag 82 j (by omega), ag 83 j (by omega), ag 84 j (by omega), ag 85 j (by omega)] at this
        exact this
    · rw [t2 a b (by omega)]; exact ag a b (by omega)
/-- the reference's call -/
theorem rules9 {B : Nat → Nat} {l : Nat} {σ : ST} (hl : l ≤ 300) (h42 : σ 63 42 = nI l) (h86 : ∀ j, j < l → B j < 256 ∧ σ 86 j = nI (B j)) {Q : Int32 → ST → Prop}
    (h0 : ∀ f τ, txt B l = .inl f → τ 63 43 = nI f.1 → τ 63 42 = 0 → (∀ a b, ¬ u9 a b → ¬ (a = 63 ∧ (b = 0 ∨ b = 42 ∨ b = 43 ∨ b = 44)) → τ a b = σ a b) → Q ((-1000100) - nI f.2) τ)
    (h1 : ∀ r τ, txt B l = .inr r → dOk r.2 → τ 63 27 = nI r.2.1 → τ 63 28 = nI r.2.2.1.length → τ 63 31 = nI r.2.2.2.length → (∀ (j : Nat) (x : Nat × Nat), r.2.2.1[j]? = some x → τ 78 j = nI x.1 ∧ τ 79 j = nI x.2) → (∀ (j : Nat) (x : Nat × Nat), r.2.2.2[j]? = some x → τ 80 j = nI x.1 ∧ τ 81 j = nI x.2) → τ 63 42 = 0 → (∀ a b, ¬ u9 a b → ¬ (a = 63 ∧ (b = 0 ∨ b = 27 ∨ b = 28 ∨ b = 31 ∨ b = 42 ∨ b = 44)) → ¬ (78 ≤ a ∧ a ≤ 81) → τ a b = σ a b) → Q (nI r.1) τ) : w_X9_rules σ Q := by
  intro s1 e1 s2 e2 s3 e3 s4 e4 s5 e5 s6 e6 s7 e7 s8 e8
  have x42 : s1 63 42 = nI l := by rw [e1, up_ne _ _ (by omega)]; exact h42
  rw [x42] at e2
  have ag : ∀ a b, ¬ (a = 63 ∧ (b = 0 ∨ b = 44 ∨ b = 42 ∨ b = 45 ∨ b = 49 ∨ b = 34 ∨ b = 35 ∨ b = 38)) → s8 a b = σ a b := fun a b z => by
    rw [e8, up_ne _ _ (by omega), e7, up_ne _ _ (by omega), e6, up_ne _ _ (by omega), e5, up_ne _ _ (by omega), e4, up_ne _ _ (by omega), e3, up_ne _ _ (by omega), e2, up_ne _ _ (by omega), e1, up_ne _ _ (by omega)]
  have y44 : s8 63 44 = nI l := by rw [e8, up_ne _ _ (by omega), e7, up_ne _ _ (by omega), e6, up_ne _ _ (by omega), e5, up_ne _ _ (by omega), e4, up_ne _ _ (by omega), e3, up_ne _ _ (by omega), e2, up_self]
  have y42 : s8 63 42 = 0 := by rw [e8, up_ne _ _ (by omega), e7, up_ne _ _ (by omega), e6, up_ne _ _ (by omega), e5, up_ne _ _ (by omega), e4, up_ne _ _ (by omega), e3, up_self]
  have y45 : s8 63 45 = 0 := by rw [e8, up_ne _ _ (by omega), e7, up_ne _ _ (by omega), e6, up_ne _ _ (by omega), e5, up_ne _ _ (by omega), e4, up_self]
  have y49 : s8 63 49 = 0 := by rw [e8, up_ne _ _ (by omega), e7, up_ne _ _ (by omega), e6, up_ne _ _ (by omega), e5, up_self]
  have y34 : s8 63 34 = 0 := by rw [e8, up_ne _ _ (by omega), e7, up_ne _ _ (by omega), e6, up_self]
  have y35 : s8 63 35 = 0 := by rw [e8, up_ne _ _ (by omega), e7, up_self]
  have y38 : s8 63 38 = 0 := by rw [e8, up_self]
  have T8 : TV9 B l s8 := ⟨hl, y44, fun j hj => ⟨(h86 j hj).1, by rw [ag 86 j (by omega)]; exact (h86 j hj).2⟩⟩
  refine step9 (p := 0) (by omega) T8 y45 (fun s9 t9' a9 => ?_)
  have R9 : RV s8 B l (0, [], []) (tk B l 0) s9 := by
    refine ⟨T8.fr (fun a b hab => a9 a b (by omega)), t9', ⟨by rw [a9 _ _ (by omega)]; exact y34, by rw [a9 _ _ (by omega)]; exact y35, by rw [a9 _ _ (by omega)]; exact y38, fun j x hx => absurd hx (by simp), fun j x hx => absurd hx (by simp)⟩, by rw [a9 _ _ (by omega)]; exact y49, fun a b hab => a9 a b (by omega)⟩
  refine ⟨l + 2, RV.all l 0 0 (0, [], []) (tk B l 0) s9 R9 (tk_ok (by omega)) ⟨by simp, by simp, by simp, fun x hx => absurd hx (by simp)⟩ (by omega) (fun g t' τ x eg hg => ⟨fun z => absurd z hg.nle, fun _ s20 e20 => ?_⟩) (fun r t' τ er hdr hr => ⟨fun _ s12 e12 s13 e13 s14 e14 => ?_, fun z => absurd (by rw [hr.2.2.2.1]; exact Int32.le_refl _) z⟩)⟩
  · have fr := hg.2.2.2.2.2.2.2
    rw [show s20 63 50 = nI g.2 by rw [e20, up_ne _ _ (by omega)]; exact hg.2.2.2.2.2.2.1]
    refine h0 g s20 eg ?_ ?_ (fun a b z1 z2 => ?_)
    · rw [e20, up_self]; exact hg.2.2.2.1
    · rw [e20, up_ne _ _ (by omega), fr _ _ (by omega)]; exact y42
    · rw [e20, up_ne _ _ (by omega), fr _ _ z1]; exact ag a b (by omega)
  · obtain ⟨g1, g2, ⟨d1, d2, d3, d4', d5⟩, g4, fr⟩ := hr
    rw [d1] at e12
    rw [show s12 63 35 = nI r.2.2.1.length by rw [e12, up_ne _ _ (by omega)]; exact d2] at e13
    rw [show s13 63 38 = nI r.2.2.2.length by rw [e13, up_ne _ _ (by omega), e12, up_ne _ _ (by omega)]; exact d3] at e14
    have ag14 : ∀ a b, ¬ (a = 63 ∧ (b = 27 ∨ b = 28 ∨ b = 31)) → s14 a b = τ a b := fun a b z => by rw [e14, up_ne _ _ (by omega), e13, up_ne _ _ (by omega), e12, up_ne _ _ (by omega)]
    refine ⟨6, cp124 5 0 s14 (by omega) (fun τ2 c1 c2 => h1 r τ2 er hdr ?_ ?_ ?_ (fun j x hx => ?_) (fun j x hx => ?_) ?_ (fun a b z1 z2 z3 => ?_))⟩
    · rw [c2 _ _ (by omega), e14, up_ne _ _ (by omega), e13, up_ne _ _ (by omega), e12, up_self]
    · rw [c2 _ _ (by omega), e14, up_ne _ _ (by omega), e13, up_self]
    · rw [c2 _ _ (by omega), e14, up_self]
    · have hj := (List.getElem?_eq_some_iff.mp hx).1
      obtain ⟨q1, q2, q3, q4⟩ := c1 j (by omega) (by have := hdr.2.1; omega)
      rw [q1, q2, ag14 _ _ (by omega), ag14 _ _ (by omega)]
      exact d4' j x hx
    · have hj := (List.getElem?_eq_some_iff.mp hx).1
      obtain ⟨q1, q2, q3, q4⟩ := c1 j (by omega) (by have := hdr.2.2.1; omega)
      rw [q3, q4, ag14 _ _ (by omega), ag14 _ _ (by omega)]
      exact d5 j x hx
    · rw [c2 _ _ (by omega), ag14 _ _ (by omega), fr _ _ (by omega)]; exact y42
    · rw [c2 _ _ (by omega), ag14 _ _ (by omega), fr _ _ z1]; exact ag a b (by omega)
theorem st_rules : HRules := by
  intro c σ Q hcc h hQ
  obtain ⟨n, t, hs, hst, htk, hmo, hru, htp, has⟩ := h
  obtain ⟨a1, a2, a3, a4, a5, a6, ⟨e, ee, a7a, a7b⟩, b0, b1, b2, b3, b4, b5, b6, b7, b8, b9⟩ := id hs
  obtain ⟨l, hl, l1, l2, l3⟩ := htp
  obtain ⟨⟨k, r0, q0, hk, hr0, hq0, i1, i2, i3, i4, i5, i6, i7, i8, i9⟩, hhold, h20, h7a, h7b⟩ := id hru
  have hB : ∀ j, j < l → N (σ 86 j) < 256 ∧ σ 86 j = nI (N (σ 86 j)) ∧ σ 6 j &&& 255 = nI (N (σ 86 j)) := fun j hj => by
    obtain ⟨b, hb, e1, e2⟩ := l3 j hj
    rw [e1, N_nI (by omega)]
    exact ⟨hb, rfl, e2⟩
  refine rules8 (B := fun j => N (σ 86 j)) hk i1 i2 ⟨hl, l1, fun j hj => ⟨(hB j hj).1, (hB j hj).2.2⟩⟩ (fun f τ ef x13 x51 ag => ?_) (fun r τ er hdr hD x11 x12 x51 ag => ?_)
  · refine rules9 (B := fun j => N (σ 86 j)) (l := l) hl (by rw [ag 63 42 (by omega) (by omega) (by omega)]; exact l2) (fun j hj => ⟨(hB j hj).1, by rw [ag 86 j (by omega) (by omega) (by omega)]; exact (hB j hj).2.1⟩) (fun f2 υ ef2 y43 y42 ag2 => ?_) (fun r2 υ er2 _ _ _ _ _ _ _ _ => ?_)
    · rw [ef] at ef2
      injection ef2 with ef2
      subst ef2
      have g : ∀ a b, ¬ tR (15 - k) a → ¬ (a = 0 ∧ b = 13) → ¬ (a = 5 ∧ b = 1) → ¬ u9 a b → ¬ (a = 63 ∧ (b = 0 ∨ b = 42 ∨ b = 43 ∨ b = 44)) → υ a b = σ a b := fun a b z1 z2 z3 z4 z5 => by rw [ag2 a b z4 z5]; exact ag a b z1 z2 z3
      have g0 : ∀ b, b ≠ 13 → υ 0 b = σ 0 b := fun b hb => g 0 b (by omega) (by omega) (by omega) (by omega) (by omega)
      have g63 : ∀ b, ¬ (b = 0 ∨ b = 34 ∨ b = 35 ∨ b = 38 ∨ (42 ≤ b ∧ b ≤ 50)) → υ 63 b = σ 63 b := fun b hb => g 63 b (by omega) (by omega) (by omega) (by omega) (by omega)
      refine hQ _ υ ⟨n, t, ⟨a1, a2, by rw [g0 7 (by omega)]; exact a3, by rw [g63 10 (by omega)]; exact a4, by rw [g 2 1 (by omega) (by omega) (by omega) (by omega) (by omega)]; exact a5, by rw [g63 18 (by omega)]; exact a6, ⟨e, by omega, by rw [g 2 2 (by omega) (by omega) (by omega) (by omega) (by omega)]; exact a7a, by rw [g63 19 (by omega)]; exact a7b⟩, by rw [g0 0 (by omega), g63 1 (by omega)]; exact b0, by rw [g0 1 (by omega), g63 2 (by omega)]; exact b1, by rw [g0 2 (by omega), g63 3 (by omega)]; exact b2, by rw [g0 3 (by omega), g63 4 (by omega)]; exact b3, by rw [g0 4 (by omega), g63 5 (by omega)]; exact b4, by rw [g0 5 (by omega), g63 7 (by omega)]; exact b5, by rw [g0 6 (by omega), g63 6 (by omega)]; exact b6, ?_, by rw [g 2 3 (by omega) (by omega) (by omega) (by omega) (by omega), g63 8 (by omega)]; exact b8, by rw [g 2 4 (by omega) (by omega) (by omega) (by omega) (by omega), g63 9 (by omega)]; exact b9⟩, fr_st hst (fun a b hf => g a b (by omega) (by omega) (by omega) (by omega) (by omega)), fr_tk a2 htk (fun a b hf => g a b (by omega) (by omega) (by omega) (by omega) (by omega)), fr_mo hmo (fun a b hf => g a b (by omega) (by omega) (by omega) (by omega) (by omega)), ?_, ⟨0, by omega, ?_, ?_, fun j hj => absurd hj (by omega)⟩, fr_as has (fun a b hf => g a b (by omega) (by omega) (by omega) (by omega) (by omega))⟩
      · rw [ag2 0 13 (by omega) (by omega), x13, y43]
      · refine ⟨⟨k, r0, q0, hk, hr0, hq0, by rw [g0 11 (by omega)]; exact i1, by rw [g0 12 (by omega)]; exact i2, by rw [g k 1 (by omega) (by omega) (by omega) (by omega) (by omega), g63 27 (by omega)]; exact i3, by rw [g k 2 (by omega) (by omega) (by omega) (by omega) (by omega)]; exact i4, by rw [g63 28 (by omega)]; exact i5, by rw [g k 3 (by omega) (by omega) (by omega) (by omega) (by omega)]; exact i6, by rw [g63 31 (by omega)]; exact i7, fun j hj => ?_, fun j hj => ?_⟩, by rw [g63 27 (by omega)]; exact hhold, by rw [g 20 0 (by omega) (by omega) (by omega) (by omega) (by omega)]; exact h20, by rw [g63 7 (by omega)]; exact h7a, by rw [g63 7 (by omega)]; exact h7b⟩
        · rw [g (4 * k - 18 + 0 - 1) j (by omega) (by omega) (by omega) (by omega) (by omega), g (4 * k - 18 + 1 - 1) j (by omega) (by omega) (by omega) (by omega) (by omega), g 78 j (by omega) (by omega) (by omega) (by omega) (by omega), g 79 j (by omega) (by omega) (by omega) (by omega) (by omega)]; exact i8 j hj
        · rw [g (4 * k - 18 + 2 - 1) j (by omega) (by omega) (by omega) (by omega) (by omega), g (4 * k - 18 + 3 - 1) j (by omega) (by omega) (by omega) (by omega) (by omega), g 80 j (by omega) (by omega) (by omega) (by omega) (by omega), g 81 j (by omega) (by omega) (by omega) (by omega) (by omega)]; exact i9 j hj
      · rw [ag2 5 1 (by omega) (by omega), x51]; rfl
      · rw [y42]; rfl
    · rw [ef] at er2
      cases er2
  · refine rules9 (B := fun j => N (σ 86 j)) (l := l) hl (by rw [ag 63 42 (by omega) (by omega) (by omega)]; exact l2) (fun j hj => ⟨(hB j hj).1, by rw [ag 86 j (by omega) (by omega) (by omega)]; exact (hB j hj).2.1⟩) (fun f2 υ ef2 _ _ _ => ?_) (fun r2 υ er2 _ y27 y28 y31 y78 y80 y42 ag2 => ?_)
    · rw [er] at ef2
      cases ef2
    · rw [er] at er2
      injection er2 with er2
      subst er2
      have g : ∀ a b, ¬ tR (15 - k) a → ¬ (a = 0 ∧ (b = 11 ∨ b = 12)) → ¬ (a = 5 ∧ b = 1) → ¬ u9 a b → ¬ (a = 63 ∧ (b = 0 ∨ b = 27 ∨ b = 28 ∨ b = 31 ∨ b = 42 ∨ b = 44)) → ¬ (78 ≤ a ∧ a ≤ 81) → υ a b = σ a b := fun a b z1 z2 z3 z4 z5 z6 => by rw [ag2 a b z4 z5 z6]; exact ag a b z1 z2 z3
      have gc : ∀ a b, a < 63 → υ a b = τ a b := fun a b z => ag2 a b (by omega) (by omega) (by omega)
      have g0 : ∀ b, ¬ (b = 11 ∨ b = 12) → υ 0 b = σ 0 b := fun b hb => g 0 b (by omega) (by omega) (by omega) (by omega) (by omega) (by omega)
      have g63 : ∀ b, ¬ (b = 0 ∨ b = 27 ∨ b = 28 ∨ b = 31 ∨ b = 34 ∨ b = 35 ∨ b = 38 ∨ b = 42 ∨ (44 ≤ b ∧ b ≤ 50)) → υ 63 b = σ 63 b := fun b hb => g 63 b (by omega) (by omega) (by omega) (by omega) (by omega) (by omega)
      obtain ⟨o1, o2, o3, o4⟩ := hdr
      obtain ⟨d0, d1, d2, d3, d4', d5⟩ := hD
      refine hQ _ υ ⟨n, t, ⟨a1, a2, by rw [g0 7 (by omega)]; exact a3, by rw [g63 10 (by omega)]; exact a4, by rw [g 2 1 (by omega) (by omega) (by omega) (by omega) (by omega) (by omega)]; exact a5, by rw [g63 18 (by omega)]; exact a6, ⟨e, by omega, by rw [g 2 2 (by omega) (by omega) (by omega) (by omega) (by omega) (by omega)]; exact a7a, by rw [g63 19 (by omega)]; exact a7b⟩, by rw [g0 0 (by omega), g63 1 (by omega)]; exact b0, by rw [g0 1 (by omega), g63 2 (by omega)]; exact b1, by rw [g0 2 (by omega), g63 3 (by omega)]; exact b2, by rw [g0 3 (by omega), g63 4 (by omega)]; exact b3, by rw [g0 4 (by omega), g63 5 (by omega)]; exact b4, by rw [g0 5 (by omega), g63 7 (by omega)]; exact b5, by rw [g0 6 (by omega), g63 6 (by omega)]; exact b6, by rw [g0 13 (by omega), g63 43 (by omega)]; exact b7, by rw [g 2 3 (by omega) (by omega) (by omega) (by omega) (by omega) (by omega), g63 8 (by omega)]; exact b8, by rw [g 2 4 (by omega) (by omega) (by omega) (by omega) (by omega) (by omega), g63 9 (by omega)]; exact b9⟩, fr_st hst (fun a b hf => g a b (by omega) (by omega) (by omega) (by omega) (by omega) (by omega)), fr_tk a2 htk (fun a b hf => g a b (by omega) (by omega) (by omega) (by omega) (by omega) (by omega)), fr_mo hmo (fun a b hf => g a b (by omega) (by omega) (by omega) (by omega) (by omega) (by omega)), ?_, ⟨0, by omega, ?_, ?_, fun j hj => absurd hj (by omega)⟩, fr_as has (fun a b hf => g a b (by omega) (by omega) (by omega) (by omega) (by omega) (by omega))⟩
      · refine ⟨⟨15 - k, r.2.2.1.length, r.2.2.2.length, by omega, o2, o3, by rw [gc 0 11 (by omega), x11]; congr 1; omega, by rw [gc 0 12 (by omega), x12]; congr 1; omega, by rw [gc _ 1 (by omega), y27]; exact d1, by rw [gc _ 2 (by omega)]; exact d2, y28, by rw [gc _ 3 (by omega)]; exact d3, y31, fun j hj => ?_, fun j hj => ?_⟩, ?_, by rw [g 20 0 (by omega) (by omega) (by omega) (by omega) (by omega) (by omega)]; exact h20, by rw [g63 7 (by omega)]; exact h7a, by rw [g63 7 (by omega)]; exact h7b⟩
        · have hg : r.2.2.1[j]? = some (r.2.2.1[j]'hj) := List.getElem?_eq_getElem hj
          rw [gc (4 * (15 - k) - 18 + 0 - 1) j (by omega), gc (4 * (15 - k) - 18 + 1 - 1) j (by omega), (d4' j _ hg).1, (d4' j _ hg).2, (y78 j _ hg).1, (y78 j _ hg).2]
          exact ⟨rfl, rfl⟩
        · have hg : r.2.2.2[j]? = some (r.2.2.2[j]'hj) := List.getElem?_eq_getElem hj
          have hm := o4 _ (List.getElem_mem hj)
          rw [gc (4 * (15 - k) - 18 + 2 - 1) j (by omega), gc (4 * (15 - k) - 18 + 3 - 1) j (by omega), (d5 j _ hg).1, (d5 j _ hg).2, (y80 j _ hg).1, (y80 j _ hg).2]
          exact ⟨rfl, rfl, nn_nI (by omega), by rw [N_nI (by omega)]; exact hm⟩
        · rw [y27]
          rcases (show r.2.1 = 0 ∨ r.2.1 = 1 ∨ r.2.1 = 2 by omega) with z | z | z
          · rw [z]; exact Or.inl rfl
          · rw [z]; exact Or.inr (Or.inl rfl)
          · rw [z]; exact Or.inr (Or.inr rfl)
      · rw [gc 5 1 (by omega), x51]; rfl
      · rw [y42]; rfl
