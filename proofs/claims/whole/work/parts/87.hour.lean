/-! hour -/
theorem tail8 {σ0 s : ST} {n r k sun : Nat} {fr pt : Nat → Int32} {z : Int32} (hn : n ≤ 10) (hsun : sun ≤ 10) (h07 : σ0 0 7 = nI n) (hk : k = 7 ∨ k = 8) (h11 : σ0 0 11 = nI (k - 7)) (hr : r ≤ 5) (hk2 : σ0 k 2 = nI r) (hf : ∀ j, j < r → σ0 (4 * k - 18 + 0 - 1) j = fr j ∧ σ0 (4 * k - 18 + 1 - 1) j = pt j)
    {L : List Tk} {st we : Nat → Int32} {lo br ba : Int32} (hc8 : c8 n L) (hwb : wb st we) (h : V8 σ0 L st we lo br ba s) {Q : Int32 → ST → Prop}
    (hQ : ∀ τ, V8 σ0 (((wr brk sun n ((L, st, br), we)).1.1.map pF).filter lv) (wr brk sun n ((L, st, br), we)).1.2.1 (wr brk sun n ((L, st, br), we)).2 lo (wr brk sun n ((L, st, br), we)).1.2.2 (ba + sm (payr (cp fr pt z r 0)) L) τ → Q (τ 2 1) τ) :
    w_X8_payBackRain s z (fun s8 => w_X8_wearAll s8 (nI sun) (fun s9 => w_X8_passAnHour s9 (fun s10 => w_X7_dropEnded s10 (fun s11 => Q (s11 2 1) s11)))) := by
  have fr8 := h.2.2.2.2.2.2.2
  have hkN : (s 0 11).toNatClampNeg = k - 7 := by rw [fr8 0 11 (by omega), h11]; exact nI_clamp (by omega)
  unfold w_X8_payBackRain
  rw [hkN]
  refine ⟨by omega, fun k1 ek1 => ?_⟩
  obtain rfl : k1 = k := by omega
  refine part8 hr (by rw [fr8 k1 2 (by omega)]; exact hk2) (fun j hj => ?_) ?_ (fr := fr) (pt := pt)
  · rw [fr8 _ _ (by omega), fr8 _ _ (by omega)]; exact hf j hj
  refine ⟨L.length + 1, rain8 L [] s ba h (fun τ hτ => ?_)⟩
  rw [List.nil_append] at hτ
  refine ⟨n + 1, wear8 hn hsun h07 (W := (L, st, br)) hwb (fun τ2 h2 => ?_) n 0 τ (by omega) hτ⟩
  have hc := (wr_fl (n := n) (sun := sun) (L, st, br) we hc8 n).1
  refine ⟨_, pass8 _ [] τ2 (fun T hT => ?_) h2 (fun τ3 h3 => ?_)⟩
  · obtain ⟨p, hp, e⟩ := (hc T hT).1
    exact ⟨p, by omega, e⟩
  rw [List.nil_append] at h3
  exact drop8' (c8_pass hc).dz h3 (fun τ4 h4 => hQ τ4 h4)
theorem tail9 {σ0 s : ST} {n e k0 r sun : Nat} {fr pt : Nat → Int32} {z : Int32} (hn : n ≤ 10) (hsun : sun ≤ 10) (h10 : σ0 63 10 = nI n) (hr : r ≤ 5) (h28 : σ0 63 28 = nI r) (hf : ∀ j, j < r → σ0 78 j = fr j ∧ σ0 79 j = pt j)
    {L : List Tk} {st we : Nat → Int32} {lo br ba : Int32} (hw : wf n e k0 L st lo br) (hwe : ∀ s, s < 10 → nn (we s) ∧ N (we s) < 1000) (h : V9 σ0 L st we lo br ba s) {Q : Int32 → ST → Prop}
    (hQ : ∀ τ, wf n e k0 (wr (fun s w => fl (brk s w)) sun n ((L, st, br), we)).1.1 (wr (fun s w => fl (brk s w)) sun n ((L, st, br), we)).1.2.1 lo (wr (fun s w => fl (brk s w)) sun n ((L, st, br), we)).1.2.2 → (∀ s, s < 10 → nn ((wr (fun s w => fl (brk s w)) sun n ((L, st, br), we)).2 s) ∧ N ((wr (fun s w => fl (brk s w)) sun n ((L, st, br), we)).2 s) < 1000) → V9 σ0 (((wr (fun s w => fl (brk s w)) sun n ((L, st, br), we)).1.1.map d4).filter k4) (wr (fun s w => fl (brk s w)) sun n ((L, st, br), we)).1.2.1 (wr (fun s w => fl (brk s w)) sun n ((L, st, br), we)).2 lo (wr (fun s w => fl (brk s w)) sun n ((L, st, br), we)).1.2.2 (ba + sm (payr (cp fr pt z r 0)) L) τ → Q (τ 63 18) τ) :
    ∀ x6 : Int32, x6 = ((s 63 28) - 1) → (∃ n4 : Nat, w_X9_hour_L265 z (nI sun) (fun (s18 : ST) (x10 : Int32) => ∃ n5 : Nat, w_X9_hour_L304 (nI sun) x10 (fun (s20 : ST) => ∃ n7 : Nat, w_X9_hour_L352 (nI sun) (fun (s26 : ST) => ∀ x13 : Int32, x13 = ((s26 63 18) - 1) → (∃ n8 : Nat, w_X9_hour_L429 (fun (s29 : ST) => Q (s29 63 18) s29) Q n8 s26 x13)) Q n7 s20 0) Q n5 s18 0) Q n4 s 0 x6) := by
  intro x6 ex6
  have fr9 := h.2.2.2.2.2.2.2
  rw [ex6, fr9 63 28 (by omega), h28]
  refine ⟨r + 1, part9 (fr := fr) (pt := pt) r 0 hr (fun j hj => ?_) ?_⟩
  · rw [fr9 _ _ (by omega), fr9 _ _ (by omega)]; exact hf j hj
  have hrp : rp fr pt z r 0 = cp fr pt z r 0 := by
    have := rp_cp fr pt z r 0
    rw [Nat.zero_add] at this
    exact this
  rw [hrp]
  refine ⟨L.length + 1, rain9 L [] s ba h (fun τ hτ => ?_)⟩
  rw [List.nil_append] at hτ
  refine ⟨n + 1, wear9 (n := n) (e := e) (k0 := k0) hn hsun h10 (W := (L, st, br)) (fun τ2 hw2 hwe2 h2 => ?_) n 0 τ (by omega) hw hwe hτ⟩
  intro x13 ex13
  rw [ex13, h2.2.1]
  generalize wr (fun s w => fl (brk s w)) sun n ((L, st, br), we) = X at *
  refine ⟨X.1.1.reverse.length + 1, ?_⟩
  have := pass9 (σ0 := σ0) (st := X.1.2.1) (we := X.2) (lo := lo) (br := X.1.2.2) (ba := ba + sm (payr (cp fr pt z r 0)) L) (K := fun (s29 : ST) => Q (s29 63 18) s29) (Q := Q) X.1.1.reverse [] τ2 (fun T hT => ?_) (by rw [List.reverse_reverse, List.append_nil]; exact h2) (fun τ3 h3 => ?_)
  · rw [List.length_reverse] at this
    rw [List.length_reverse]
    exact this
  · obtain ⟨-, -, ⟨p, hp, e⟩, -⟩ := hw2.1 T (List.mem_reverse.mp hT)
    exact ⟨p, by omega, e⟩
  · rw [List.reverse_reverse, List.append_nil] at h3
    exact hQ τ3 hw2 hwe2 h3
theorem V8.mv {σ0 σ1 : ST} {L : List Tk} {st we : Nat → Int32} {lo br ba : Int32} {σ τ : ST} (h : V8 σ0 L st we lo br ba σ) (ag : ∀ a b, a < 63 → τ a b = σ a b) (hf : ∀ a b, ¬ t8 a b → τ a b = σ1 a b) : V8 σ1 L st we lo br ba τ := by
  obtain ⟨a1, a2, ⟨pi, p1, p2, p3⟩, a4, a5, a6, a7, a8⟩ := h
  refine ⟨a1, by rw [ag 2 1 (by omega)]; exact a2, ⟨pi, fun i hi => ⟨(p1 i hi).1, by rw [ag 3 i (by omega)]; exact (p1 i hi).2⟩, p2, fun i T hT j hj => ?_⟩, fun s hs => ?_, by rw [ag 0 1 (by omega)]; exact a5, by rw [ag 0 2 (by omega)]; exact a6, by rw [ag 2 4 (by omega)]; exact a7, hf⟩
  · have hi := (List.getElem?_eq_some_iff.mp hT).1
    have := (p1 i (by omega)).1
    rw [ag _ _ (by omega)]; exact p3 i T hT j hj
  · rw [ag _ _ (by omega), ag _ _ (by omega), ag _ _ (by omega)]; exact a4 s hs
theorem st_hour : HHour := by
  intro c σ Q hcc h hQ x y z w
  have hh := h
  obtain ⟨n, t, hs, hst, htk, hmo, hru, htp, has⟩ := h
  obtain ⟨a1, a2, a3, a4, a5, a6, a7, b0, b1, b2, b3, b4, b5, b6, b7, b8, b9⟩ := id hs
  obtain ⟨hn7, h7le⟩ := hru.2.2.2
  have bad : ¬ ((0 ≤ x.toInt ∧ x.toInt ≤ 1000) ∧ (0 ≤ y.toInt ∧ y.toInt ≤ 100) ∧ (0 ≤ z.toInt ∧ z.toInt ≤ 60) ∧ (0 ≤ w.toInt ∧ w.toInt ≤ 10)) → w_X9_hour σ x y z w (fun r2 s2 => Q (-1000001) r2 s2) := by
    intro hb s1 e1
    obtain ⟨hI, hag⟩ := th hh e1
    exact R9_in (fun h1 => tt1 (R9_in (fun h2 => tt1 (R9_in (fun h3 => tt1 (R9_in (fun h4 => absurd ⟨h1, h2, h3, h4⟩ hb) (fun _ => tf0 (hQ _ _ hI)))) (fun _ => tt0 (hQ _ _ hI)))) (fun _ => tt0 (hQ _ _ hI)))) (fun _ => tt0 (hQ _ _ hI))
  refine R8_w (fun h1 => tt1 (R8_w (fun h2 => tt1 (R8_w (fun h3 => tt1 (R8_w (fun h4 => tf1 ?_) (fun h4 => tf0 (bad (fun v => h4 v.2.2.2))))) (fun h3 => tt0 (bad (fun v => h3 v.2.2.1))))) (fun h2 => tt0 (bad (fun v => h2 v.2.1))))) (fun h1 => tt0 (bad (fun v => h1 v.1)))
  have hlt : σ 0 5 < 5000 ↔ N (σ 63 7) < 5000 := by
    rw [b5, Int32.lt_iff_toInt_lt, nn_int hn7, show (5000 : Int32).toInt = 5000 from rfl]
    omega
  refine ⟨fun hl => ?_, fun hl => ?_⟩
  · have hl' := hlt.mp hl
    intro s5 e5 s6 e6
    have ag6 : ∀ a b, ¬ (a = 0 ∧ (b = 5 ∨ b = 6)) → s6 a b = σ a b := fun a b v => by rw [e6, up_ne _ _ (by omega), e5, up_ne _ _ (by omega)]
    obtain ⟨hwf, h67⟩ := wf_init (c := c) a1 hmo
    have hwN : nn w := nn_of (by rw [k32_0] at h4; exact h4.1)
    have hsun : N w ≤ 10 := by have := N_int (x := w) (by rw [k32_0] at h4; exact h4.1); rw [k32_10] at h4; omega
    have V0 := init8 (n := n) a2 a5 hst htk h67 b1 b2 b9 (fun a b v1 v2 => ag6 a b v2)
    have hc0 : c8 n (tkL t σ) := fun T hT => by
      obtain ⟨-, -, g2, g3, g4, -⟩ := hwf.1 T hT
      exact ⟨g2, fun e => absurd (decide_eq_true (pos_of g3 g4)) (by unfold lv at e; rw [e]; decide)⟩
    have hwb0 : ∀ s, s < 10 → nn (σ 68 s) ∧ N (σ 68 s) < 1000 := fun s hs => ⟨(hmo.1 s hs).2.2.1, (hmo.1 s hs).2.2.2.1⟩
    obtain ⟨k, r, q, hk, hr, hq, i1, i2, i3, i4, i5, i6, i7, i8, i9⟩ := hru.1
    have hwf1 := wf_tide (ht := σ 64) (v := x) a1 hwf n a1
    have hwb1 : wb (tst (σ 64) x (fun s => σ 66 s + σ 67 s) n) (fun s => σ 68 s) := fun s hs => ⟨(hwf1.2.2.1 s hs).1, (free_e hwf1 hs).2, hwb0 s hs⟩
    have sim1 : ((tkL t σ).map (tF (σ 64) x)).filter lv = (tkL t σ).filter (qd (σ 64) x n) := sim_tide _ (fun T hT => by
      obtain ⟨-, -, ⟨p, hp, e⟩, g3, g4, -⟩ := hwf.1 T hT
      exact ⟨decide_eq_true (pos_of g3 g4), p, hp, by omega, e⟩)
    have hc1 : c8 n ((tkL t σ).map (tF (σ 64) x)) := c8_tide hc0
    rw [hwN]
    -- both ends
    have fin : ∀ (L2 : List Tk) (ba2 : Int32) (sm8 : ST), c8 n L2 → wf n (N (σ 63 19)) (N (σ 63 1)) (L2.filter lv) (tst (σ 64) x (fun s => σ 66 s + σ 67 s) n) (tlo (σ 64) x (fun s => σ 66 s + σ 67 s) (σ 63 2) n) (σ 63 3) → V8 s6 L2 (tst (σ 64) x (fun s => σ 66 s + σ 67 s) n) (fun s => σ 68 s) (tlo (σ 64) x (fun s => σ 66 s + σ 67 s) (σ 63 2) n) (σ 63 3) ba2 sm8 →
        (∀ (σ9 s17 : ST) (Q' : Int32 → ST → Prop), σ9 63 10 = nI n → σ9 63 28 = nI r → (∀ j, j < r → σ9 78 j = σ 78 j ∧ σ9 79 j = σ 79 j) → (∀ q, q < 10 → σ9 64 q = σ 64 q) → σ9 63 5 = σ 63 5 → V9 σ9 (tkL t σ) (fun s => σ 66 s + σ 67 s) (fun s => σ 68 s) (σ 63 2) (σ 63 3) (σ 63 9) σ9 →
          (∀ s, V9 σ9 (L2.filter lv) (tst (σ 64) x (fun s => σ 66 s + σ 67 s) n) (fun s => σ 68 s) (tlo (σ 64) x (fun s => σ 66 s + σ 67 s) (σ 63 2) n) (σ 63 3) ba2 s → ∀ x6 : Int32, x6 = ((s 63 28) - 1) → (∃ n4 : Nat, w_X9_hour_L265 z (nI (N w)) (fun (s18 : ST) (x10 : Int32) => ∃ n5 : Nat, w_X9_hour_L304 (nI (N w)) x10 (fun (s20 : ST) => ∃ n7 : Nat, w_X9_hour_L352 (nI (N w)) (fun (s26 : ST) => ∀ x13 : Int32, x13 = ((s26 63 18) - 1) → (∃ n8 : Nat, w_X9_hour_L429 (fun (s29 : ST) => Q' (s29 63 18) s29) Q' n8 s26 x13)) Q' n7 s20 0) Q' n5 s18 0) Q' n4 s 0 x6)) →
          ∃ n2 : Nat, w_X9_hour_L88 x y z (nI (N w)) (fun (s14 : ST) => ∃ n3 : Nat, w_X9_hour_L182 y z (nI (N w)) (fun (s17 : ST) => ∀ x6 : Int32, x6 = ((s17 63 28) - 1) → (∃ n4 : Nat, w_X9_hour_L265 z (nI (N w)) (fun (s18 : ST) (x10 : Int32) => ∃ n5 : Nat, w_X9_hour_L304 (nI (N w)) x10 (fun (s20 : ST) => ∃ n7 : Nat, w_X9_hour_L352 (nI (N w)) (fun (s26 : ST) => ∀ x13 : Int32, x13 = ((s26 63 18) - 1) → (∃ n8 : Nat, w_X9_hour_L429 (fun (s29 : ST) => Q' (s29 63 18) s29) Q' n8 s26 x13)) Q' n7 s20 0) Q' n5 s18 0) Q' n4 s17 0 x6)) Q' n3 s14) Q' n2 σ9 0) →
        w_X8_payBackRain sm8 z (fun s8 => w_X8_wearAll s8 (nI (N w)) (fun s9 => w_X8_passAnHour s9 (fun s10 => w_X7_dropEnded s10 (fun s11 => w_X9_hour s11 x y z (nI (N w)) (fun r2 s2 => Q (s11 2 1) r2 s2))))) := by
      intro L2 ba2 sm8 hc2 hw2 V2 hM
      refine tail8 (Q := fun r1 s1 => w_X9_hour s1 x y z (nI (N w)) (fun r2 s2 => Q r1 r2 s2)) (fr := σ 78) (pt := σ 79) (z := z) a1 hsun (by rw [ag6 0 7 (by omega)]; exact a3) hk (by rw [ag6 0 11 (by omega)]; exact i1) hr (by rw [ag6 k 2 (by omega)]; exact i4) (fun j hj => ?_) hc2 hwb1 V2 (fun τ8 h8 => ?_)
      · rw [ag6 _ _ (by omega), ag6 _ _ (by omega)]; exact i8 j hj
      · intro s1 e1
        have f8 := h8.2.2.2.2.2.2.2
        have agm : ∀ a b, 63 ≤ a → τ8 a b = σ a b := fun a b v => by rw [f8 a b (by omega)]; exact ag6 a b (by omega)
        have ag1 : ∀ a b, 63 ≤ a → ¬ (a = 63 ∧ b = 0) → s1 a b = σ a b := fun a b v1 v2 => by rw [e1, up_ne _ _ v2]; exact agm a b v1
        rw [← hwN]
        refine R9_in (fun _ => tt1 (R9_in (fun _ => tt1 (R9_in (fun _ => tt1 (R9_in (fun _ => tf1 ?_) (fun v => absurd h4 v))) (fun v => absurd h3 v))) (fun v => absurd h2 v))) (fun v => absurd h1 v)
        rw [hwN]
        have e7 : s1 63 7 = σ 63 7 := ag1 63 7 (by omega) (by omega)
        refine ⟨fun _ => ?_, fun v => absurd v ?_⟩
        · intro s2 e2 s3 e3
          rw [e7] at e2
          have ag3 : ∀ a b, 63 ≤ a → ¬ (a = 63 ∧ (b = 0 ∨ b = 6 ∨ b = 7)) → s3 a b = σ a b := fun a b v1 v2 => by rw [e3, up_ne _ _ (by omega), e2, up_ne _ _ (by omega)]; exact ag1 a b v1 (by omega)
          have ag3c : ∀ a b, a < 63 → s3 a b = τ8 a b := fun a b v => by rw [e3, up_ne _ _ (by omega), e2, up_ne _ _ (by omega), e1, up_ne _ _ (by omega)]
          refine hM s3 s3 (fun r2 s2 => Q (τ8 2 1) r2 s2) (by rw [ag3 63 10 (by omega) (by omega)]; exact a4) (by rw [ag3 63 28 (by omega) (by omega)]; exact i5) (fun j hj => ⟨ag3 _ _ (by omega) (by omega), ag3 _ _ (by omega) (by omega)⟩) (fun q hq => ag3 _ _ (by omega) (by omega)) (ag3 _ _ (by omega) (by omega)) (init9 (n := n) a2 a6 h67 ag3) (fun s17 V9a => ?_)
          refine tail9 (n := n) (e := N (σ 63 19)) (k0 := N (σ 63 1)) (fr := σ 78) (pt := σ 79) (Q := fun r2 s2 => Q (τ8 2 1) r2 s2) a1 hsun (by rw [ag3 63 10 (by omega) (by omega)]; exact a4) hr (by rw [ag3 63 28 (by omega) (by omega)]; exact i5) (fun j hj => ⟨ag3 _ _ (by omega) (by omega), ag3 _ _ (by omega) (by omega)⟩) hw2 hwb0 V9a (fun τ hwY hweY h9 => ?_)
          obtain ⟨hcX, hY⟩ := wr_fl (n := n) (sun := N w) (L2, tst (σ 64) x (fun s => σ 66 s + σ 67 s) n, σ 63 3) (fun s => σ 68 s) hc2 n
          have hY' : wr (fun s w => fl (brk s w)) (N w) n ((L2.filter lv, tst (σ 64) x (fun s => σ 66 s + σ 67 s) n, σ 63 3), fun s => σ 68 s) = (fl (wr brk (N w) n ((L2, tst (σ 64) x (fun s => σ 66 s + σ 67 s) n, σ 63 3), fun s => σ 68 s)).1, (wr brk (N w) n ((L2, tst (σ 64) x (fun s => σ 66 s + σ 67 s) n, σ 63 3), fun s => σ 68 s)).2) := hY
          rw [hY'] at hwY hweY h9
          generalize wr brk (N w) n ((L2, tst (σ 64) x (fun s => σ 66 s + σ 67 s) n, σ 63 3), fun s => σ 68 s) = X at *
          have hsp : sm (payr (cp (σ 78) (σ 79) z r 0)) (L2.filter lv) = sm (payr (cp (σ 78) (σ 79) z r 0)) L2 := sm_lv L2 (fun T hT e => payr_0 ((hc2 T hT).2 e))
          rw [hsp] at h9
          have hps := sim_pass X.1.1 hcX.dz hwY.1
          have hwE := wf_pass hwY
          simp only [fl] at hwE h9 hweY
          rw [← hps] at hwE h9
          have f9 := h9.2.2.2.2.2.2.2
          have agc : ∀ a b, a < 63 → τ a b = τ8 a b := fun a b v => by rw [f9 a b (by omega)]; exact ag3c a b v
          have h8' : V8 τ _ _ _ _ _ _ τ := h8.mv agc (fun a b _ => rfl)
          refine leaf hQ (inv_hour (w := y) hs hst hmo hru htp has h8' h9 hwE hweY (fun a b v1 v2 v3 v4 => ?_) ?_ ?_ ?_ ?_ hl') ?_
          · by_cases va : a < 63
            · rw [agc a b va, f8 a b v1]; exact ag6 a b v3
            · rw [f9 a b v2]; exact ag3 a b (by omega) v4
          · rw [agc 0 5 (by omega), f8 0 5 (by omega), e6, up_ne _ _ (by omega), e5, up_self, b5]
          · rw [agc 0 6 (by omega), f8 0 6 (by omega), e6, up_self]
          · rw [f9 63 7 (by omega), e3, up_ne _ _ (by omega), e2, up_self]
          · rw [f9 63 6 (by omega), e3, up_self]
          · rw [h8.2.1, h9.2.1]
        · rw [e7]
          intro v
          rw [v] at hl'
          exact absurd hl' (by decide)
    refine tide8 (ht := σ 64) (v := x) a1 (by rw [ag6 0 7 (by omega)]; exact a3) (fun q hq => by rw [ag6 _ _ (by omega)]; exact (hst q hq).1) hc0 V0 (fun s7 V1 => ?_)
    have e4 : s7 0 4 = σ 63 5 := by rw [V1.2.2.2.2.2.2.2 0 4 (by omega), ag6 0 4 (by omega)]; exact b4
    rw [e4]
    have hLn : ∀ T, T ∈ tkL t σ → nn (T 1) := fun T hT => by
      obtain ⟨-, -, ⟨p, hp, e⟩, -⟩ := hwf.1 T hT
      rw [e]; exact nn_nI (by omega)
    refine ⟨fun hst1 => ?_, fun hst1 => ?_⟩
    · refine fin _ _ s7 hc1 (by rw [sim1]; exact hwf1) V1 (fun σ9 s17 Q' k10 k28 k78 k64 k5 K9 Kn => ?_)
      refine ⟨n + 1, tide9 (ht := σ 64) a1 k10 k64 hLn (fun τ hτ => ⟨1, ⟨fun _ => ?_, fun v => absurd ?_ v⟩⟩) n 0 σ9 (by omega) (by rw [qd_0, tst_0]; exact K9)⟩
      · exact Kn τ (by rw [sim1]; exact hτ)
      · rw [hτ.2.2.2.2.2.2.2 63 5 (by omega), k5]; exact hst1
    · refine ⟨_, wind8 _ [] s7 _ (fun T hT => ?_) V1 (fun s12 V2 => ?_)⟩
      · obtain ⟨p, hp, e⟩ := (hc1 T hT).1
        exact ⟨p, by omega, e⟩
      rw [List.nil_append] at V2
      refine fin _ _ s12 (c8_kill hc1) (by rw [sim_kill]; exact wf_nil hwf1) V2 (fun σ9 s17 Q' k10 k28 k78 k64 k5 K9 Kn => ?_)
      refine ⟨n + 1, tide9 (ht := σ 64) a1 k10 k64 hLn (fun τ hτ => ?_) n 0 σ9 (by omega) (by rw [qd_0, tst_0]; exact K9)⟩
      refine ⟨_, wind9 (σ0 := σ9) (by rw [k5]; exact hst1) ((tkL t σ).filter (qd (σ 64) x n)).reverse τ _ (fun T hT => ?_) (by rw [List.reverse_reverse]; exact hτ) (fun τ2 h2 => ?_)⟩
      · obtain ⟨-, -, ⟨p, hp, e⟩, -⟩ := hwf1.1 T (List.mem_reverse.mp hT)
        exact ⟨p, by omega, e⟩
      · refine Kn τ2 ?_
        rw [sim_kill]
        rw [sm_rev, ← sim1, sm_lv _ (fun T hT e => pay_0 ((hc1 T hT).2 e))] at h2
        exact h2
  · have hge : ¬ N (σ 63 7) < 5000 := fun v => hl (hlt.mpr v)
    intro s1 e1
    obtain ⟨hI, hag⟩ := th hh e1
    refine R9_in (fun _ => tt1 (R9_in (fun _ => tt1 (R9_in (fun _ => tt1 (R9_in (fun _ => tf1 ?_) (fun v => absurd h4 v))) (fun v => absurd h3 v))) (fun v => absurd h2 v))) (fun v => absurd h1 v)
    rw [hag 63 7 (by omega)]
    refine ⟨fun v => absurd ?_ v, fun _ => hQ _ _ hI⟩
    rw [hn7, show N (σ 63 7) = 5000 by omega]
    rfl
