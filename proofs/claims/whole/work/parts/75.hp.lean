/-! the law's loop, from the calls -/
theorem ctn {L : Nat} {xs : Nat → Int32} {n i c : Nat} (ih : ∀ s, Inv (c + 1) s → w_law L xs (fun _ => True) n s (nI (i + 5))) : ∀ (r : Int32) (s : ST), Inv (c + 1) s → ((r = r → (∀ x : Int32, x = nI i + 5 → (w_law L xs (fun _ => True) n s x))) ∧ (¬ (r = r) → False)) := fun r s hs =>
  ⟨fun _ x ex => by rw [ex, show (5 : Int32) = nI 5 from rfl, nI_add]; exact ih s hs, fun w => absurd rfl w⟩
