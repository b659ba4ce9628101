/-! walk: the class's best next stop, table, path -/
def gM (σ : ST) (l : List Nat) (m : Nat) : Nat × List Nat := oG (fS σ (lg l)) (ml l.length m).length (ml l.length m) (l.length - (ml l.length m).length)
theorem ml_mem {n m j : Nat} : j ∈ ml n m ↔ j < n ∧ m.testBit j = true := by unfold ml; rw [List.mem_filter, List.mem_range]
theorem fS_le {σ : ST} {l : List Nat} (hm : mNum σ) (hl : ∀ v, v < l.length → lg l v < 10) {j : Nat} (hj : j < l.length) (p : Nat) : fS σ (lg l) j p ≤ 500 := by
  have := (hm _ (hl j hj)).2.2.2.2.2.1
  unfold fS; omega
theorem finds_ok {σ s : ST} {l : List Nat} {m j : Nat} {Q : Int32 → ST → Prop} (hn : l.length < 8) (hm : m < 2 ^ l.length) (hj : j < l.length) (hb : m.testBit j = true) (h : plS σ l s) (ht : s 20 (m - 2 ^ j) = nI (gM σ l (m - 2 ^ j)).1) (hQ : Q (nI (cnd (fS σ (lg l)) ((ml l.length m).length - 1) (ml l.length m) (l.length - (ml l.length m).length) j).1) s) : w_X1_findsBy s (nI j) (nI m) Q := by
  obtain ⟨c1, c2, c3⟩ := fin2 l.length hn m hm
  obtain ⟨d1, d2, d3⟩ := fin3 hn hm hj hb
  obtain ⟨f1, f2, f3, f4⟩ := fin4 l.length hn
  have hmem : j ∈ ml l.length m := ml_mem.mpr ⟨hj, hb⟩
  have hc1 : 1 ≤ (ml l.length m).length := List.length_pos_of_mem hmem
  have hlen : (ml l.length (m - 2 ^ j)).length = (ml l.length m).length - 1 := by rw [d2, List.length_erase_of_mem hmem]
  refine R_bitc (fun x ex => ?_)
  rw [h.1, c1, pk_sub c3] at ex
  rw [ex, show (7 : Int32) = nI 7 from rfl, pk_mul, nI_add, d1, nI_clamp (show j * 7 + (l.length - (ml l.length m).length) < 2 ^ 31 by omega), nI_clamp (show m - 2 ^ j < 2 ^ 31 by omega)]
  refine ⟨vp_in_nI (by omega) (by decide), vp_in_nI (by omega) (by decide), ?_⟩
  rw [(h.2 j hj).2 _ (by omega), ht, nI_add]
  unfold gM
  rw [hlen, d2, show l.length - ((ml l.length m).length - 1) = l.length - (ml l.length m).length + 1 by omega]
  exact hQ
def bsr (v2 v3 : Int32) : Option (Nat × List Nat) → Prop
  | none => v2 = 0 ∧ v3 = -1
  | some e => v3 = nI e.1 ∧ v2 = nI (lg e.2 0)
theorem bn_ok {σ s : ST} {l : List Nat} {m : Nat} {Q : Int32 → ST → Prop} (hmn : mNum σ) (hl : ∀ v, v < l.length → lg l v < 10) (hn : l.length < 8) (hm : m < 2 ^ l.length) (hm1 : 1 ≤ m) (h : plS σ l s) (ht : ∀ k, k < m → s 20 k = nI (gM σ l k).1) (hQ : Q (nI (lg (gM σ l m).2 0)) s) : w_X1_bestNext s (nI m) Q := by
  obtain ⟨c1, c2, c3⟩ := fin2 l.length hn m hm
  have c2 := c2 hm1
  obtain ⟨f1, f2, f3, f4⟩ := fin4 l.length hn
  have hne : ml l.length m ≠ [] := by intro e; rw [e] at c2; simp at c2
  have hG := oG_mx (fS σ (lg l)) ((ml l.length m).length - 1) (ml l.length m) (l.length - (ml l.length m).length) hne
  rw [show (ml l.length m).length - 1 + 1 = (ml l.length m).length by omega] at hG
  have hbd : ∀ j, j < l.length → m.testBit j = true → (cnd (fS σ (lg l)) ((ml l.length m).length - 1) (ml l.length m) (l.length - (ml l.length m).length) j).1 ≤ 5000 := by
    intro j hj hb
    have h1 := oG_le (F := fS σ (lg l)) ((ml l.length m).length - 1) ((ml l.length m).erase j) (l.length - (ml l.length m).length + 1) (fun i hi => fS_le hmn hl (ml_mem.mp (List.mem_of_mem_erase hi)).1)
    have h2 := fS_le hmn hl hj (l.length - (ml l.length m).length)
    unfold cnd
    dsimp only
    omega
  have go : ∀ (d j : Nat) (v2 v3 : Int32), j + d = l.length → bsr v2 v3 (mx none ((ml j m).map (cnd (fS σ (lg l)) ((ml l.length m).length - 1) (ml l.length m) (l.length - (ml l.length m).length)))) → (∀ e, mx none ((ml j m).map (cnd (fS σ (lg l)) ((ml l.length m).length - 1) (ml l.length m) (l.length - (ml l.length m).length))) = some e → e.1 ≤ 5000) → w_X1_bestNext_L7 (nI m) (fun (s3 : ST) (x4 : Int32) => Q x4 s3) Q (d + 1) s v2 v3 (nI j) := by
    intro d
    induction d with
    | zero =>
      intro j v2 v3 hj hb _
      obtain rfl : j = l.length := by omega
      refine ⟨fun _ => ?_, fun w => absurd (by rw [h.1]; exact Int32.le_refl _) w⟩
      have hb' : mx none ((ml l.length m).map (cnd (fS σ (lg l)) ((ml l.length m).length - 1) (ml l.length m) (l.length - (ml l.length m).length))) = some (gM σ l m) := hG
      rw [hb'] at hb
      dsimp only
      rw [hb.2]
      exact hQ
    | succ d ih =>
      intro j v2 v3 hj hb hle
      have hstep : ml (j + 1) m = ml j m ++ (if m.testBit j then [j] else []) := by
        unfold ml
        rw [List.range_succ, List.filter_append]
        by_cases hb : m.testBit j <;> simp [hb]
      have hf1 := fin1 m (by omega) j (by omega)
      refine ⟨fun w => absurd w (by rw [h.1]; exact nI_ge (a := j) (b := l.length) (by omega) (by omega)), fun _ => ⟨fun w x ex => ?_, fun w => ?_⟩⟩
      · have hbit : m.testBit j = false := by
          rw [decide_eq_true w] at hf1
          cases hb : m.testBit j
          · rfl
          · rw [hb] at hf1; exact absurd hf1 (by decide)
        rw [ex, nI_1]
        have e : ml (j + 1) m = ml j m := by rw [hstep, hbit]; simp
        exact ih (j + 1) v2 v3 (by omega) (by rw [e]; exact hb) (by rw [e]; exact hle)
      · have hbit : m.testBit j = true := by
          rw [decide_eq_false w] at hf1
          cases hb : m.testBit j
          · rw [hb] at hf1; exact absurd hf1 (by decide)
          · rfl
        have e : ml (j + 1) m = ml j m ++ [j] := by rw [hstep, hbit]; simp
        have hcb := hbd j (by omega) hbit
        have emx : mx none ((ml (j + 1) m).map (cnd (fS σ (lg l)) ((ml l.length m).length - 1) (ml l.length m) (l.length - (ml l.length m).length))) = mxs (mx none ((ml j m).map (cnd (fS σ (lg l)) ((ml l.length m).length - 1) (ml l.length m) (l.length - (ml l.length m).length)))) (cnd (fS σ (lg l)) ((ml l.length m).length - 1) (ml l.length m) (l.length - (ml l.length m).length) j) := by
          rw [e, List.map_append, mx_app]; rfl
        have htj := ht (m - 2 ^ j) (fin3 hn hm (by omega) hbit).2.2
        have hhd : lg (cnd (fS σ (lg l)) ((ml l.length m).length - 1) (ml l.length m) (l.length - (ml l.length m).length) j).2 0 = j := rfl
        refine finds_ok hn hm (by omega) hbit h htj ⟨fun w2 x ex => ?_, fun w2 => finds_ok hn hm (by omega) hbit h htj (fun x ex => ?_)⟩
        · rw [ex, nI_1]
          generalize hce : cnd (fS σ (lg l)) ((ml l.length m).length - 1) (ml l.length m) (l.length - (ml l.length m).length) j = cc at *
          refine ih (j + 1) v2 v3 (by omega) ?_ ?_
          · rw [emx]
            generalize hob : mx none ((ml j m).map (cnd (fS σ (lg l)) ((ml l.length m).length - 1) (ml l.length m) (l.length - (ml l.length m).length))) = ob at *
            cases ob with
            | none =>
              rw [hb.2, Int32.le_iff_toInt_le, nI_toInt (by omega), show (-1 : Int32).toInt = -1 from rfl] at w2
              omega
            | some e =>
              have hel := hle e rfl
              rw [hb.1, nI_le' (by omega) (by omega)] at w2
              rw [show mxs (some e) cc = some e from if_pos w2]
              exact hb
          · intro e' he'
            rw [emx] at he'
            generalize hob : mx none ((ml j m).map (cnd (fS σ (lg l)) ((ml l.length m).length - 1) (ml l.length m) (l.length - (ml l.length m).length))) = ob at *
            cases ob with
            | none => have : cc = e' := by simpa [mxs] using he'
                      rw [← this]; exact hcb
            | some e =>
              have hel := hle e rfl
              unfold mxs at he'
              by_cases hc : cc.1 ≤ e.1
              · simp only [hc, if_true] at he'; rw [← (show e = e' by simpa using he')]; exact hel
              · simp only [hc, if_false] at he'; rw [← (show cc = e' by simpa using he')]; exact hcb
        · rw [ex, nI_1]
          generalize hce : cnd (fS σ (lg l)) ((ml l.length m).length - 1) (ml l.length m) (l.length - (ml l.length m).length) j = cc at *
          have key : mxs (mx none ((ml j m).map (cnd (fS σ (lg l)) ((ml l.length m).length - 1) (ml l.length m) (l.length - (ml l.length m).length)))) cc = some cc := by
            generalize hob : mx none ((ml j m).map (cnd (fS σ (lg l)) ((ml l.length m).length - 1) (ml l.length m) (l.length - (ml l.length m).length))) = ob at *
            cases ob with
            | none => rfl
            | some e =>
              have hel := hle e rfl
              rw [hb.1, nI_le' (by omega) (by omega)] at w2
              exact if_neg w2
          refine ih (j + 1) (nI j) (nI cc.1) (by omega) ?_ ?_
          · rw [emx, key]
            exact ⟨rfl, by rw [hhd]⟩
          · intro e' he'
            rw [emx, key] at he'
            rw [← (show cc = e' by simpa using he')]; exact hcb
  exact ⟨l.length + 1, go l.length 0 0 (-1) (by omega) ⟨rfl, rfl⟩ (fun e he => absurd he (by simp [ml, mx]))⟩
