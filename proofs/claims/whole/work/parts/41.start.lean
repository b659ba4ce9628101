/-! THE CLAIM OUT OF ONE WALK OF THE LAW'S BODY. Your part is whole_start (and what it stands on); all else here is the same for every law, but numbers. -/
def R_law : String := "ChairFrontLaw"
def lw_P (b : Addr) (xs : List Int32) (args : Array Value) (s : State) : Prop := args = #[.ref b] ∧ s.IntsAt b xs ∧ xs.length ≤ 2561 ∧ (Jvm.Cond.and given_1 narrow_1).before args s = true
def lw_Q (_ : Array Value) (s : State) (o : Outcome) (t : State) : Prop := o = .returned (some (.int 1)) ∧ Framed s o t [] 600000 7302250
def lw_Z (below : List Frame) (a : Array Value) (s : State) : State → Prop := fun t => ∃ o, t.status = .running ∧ Ended t below o ∧ lw_Q a s o t
/-- the law's own end, with 1 on the stack, nothing written that was there before, its room as the claim has it -/
theorem lw_ret {p : Program} {l : Launch} {e : Env} {s : State} {m : MethodId} {below : List Frame} {meth : Method} {c : Code} {b : Nat} (hx : p.tables.exec = Jvm.exec) (hb : c.code = code) (hr : meth.sig.returnType = ret) (hlocks : meth.locks = false) {pc : Nat} {H : Heap} {ls : Array Slot} (hdg : decode code pc = .ok (.ireturn, 1)) : W p l e room_1 s m #[Value.ref b] below meth c H [] 600000 7302250 (lw_Z below #[Value.ref b] s) (F0 m pc ls [.int 1]) := by
  intro T hT X
  obtain ⟨fs, hret, hrun, hended, hW, hframe⟩ := X.leave (v := some (.int 1)) (hlocks := hlocks) (fun h => by rw [hr] at h; cases h)
  have hmeth' : T.vm.method? m = some meth := X.method'
  refine ⟨T.setFrames fs, ?_, .returned (some (.int 1)), hrun, hended, rfl, ⟨_, rfl⟩, hW, hframe⟩
  jvm_step X.here [X.here.top, hx, hb, hdg, hmeth', hr, ret, narrow_b1]
  (try refine ⟨rfl, ?_⟩); (try refine ⟨rfl, ?_⟩)
  first | (intro acts; rw [hret _ acts rfl rfl rfl]) | rw [hret _ _ rfl rfl rfl]
  exact Steps.refl _
/-- what holds at the law's entry: the machine, the code, the tables' words (any of lw_tbl by 'hts w (by decide +kernel)'), the script of L ints xs at the cell b, what the Statement gives of the start (any of its parts by flat_of_before) -/
def lw_At (p : Program) (s : State) (m : MethodId) (meth : Method) (c : Code) (b L : Nat) (xs : Nat → Int32) : Prop :=
  p.tables.exec = Jvm.exec ∧ c.code = code ∧ meth.sig.returnType = ret ∧ c.maxLocals = 4 ∧ s.vm.findClass R_law = some m.cls ∧ (∀ w ∈ lw_tbl, w.before #[Value.ref b] s = true) ∧ va_X b L xs s s.heap ∧ b < s.heap.size ∧ meth.locks = false ∧ (Jvm.Cond.and given_1 narrow_1).before #[Value.ref b] s = true

theorem i_ws {s : State} {b : Nat} (hts : ∀ w ∈ lw_tbl, w.before #[Value.ref b] s = true) : ∀ w ∈ WS, w.before #[Value.ref b] s = true := fun w h => hts w (WS_tbl w h)
/-- cell(script, 0) -/
def cl0 (L : Nat) (xs : Nat → Int32) : Int32 := if 0 < L then xs 0 else 0
def rm_cell : Room := { frames := 0, cells := 0, slots := 0, locals := 0 }
theorem cs_L_cell : CS yL_cell cL_cell 2 (some .int) 2 := ⟨q_768, q_54, q_769, by decide +kernel⟩
set_option maxRecDepth 100000 in
theorem c_L_cell {l : Launch} (b L : Nat) (xs : Nat → Int32) (hL : L ≤ 2561) : Met l yL_cell (wS yL_cell cL_cell 2 (some .int)) rm_cell (va_Pc [.ref b, .int 0] (fun U => va_X b L xs U U.heap)) (fun _ st oc t => oc = .returned (some (.int (cl0 L xs))) ∧ t.heap = st.heap) 0 0 (fun _ => False) := by
  refine Met.ofW (cc := cL_cell) (maxL := 2) (ret := some .int) (by decide) rfl ?_
  intro p e s m args below meth c s₁ B hml hv
  obtain ⟨rfl, hX⟩ := hv
  have hx := B.exec
  have hb := B.bytes
  have hr := B.returns
  have hbl : b < s.heap.size := by obtain ⟨scr, h1, -⟩ := hX; exact (Array.getElem?_eq_some_iff.mp h1).1
  have hS : va_S (fun _ => False) s.heap s.heap [] := va_S.rf
  have hbA : ¬ (fun _ : Nat => False) b := fun h => h
  have hl := Lv.entry [.ref b, .int 0] (n := 2) (k := 0) (Nat.le_of_ble_eq_true rfl)
  rw [lg_entry_eq]
  generalize (lg_sl ([.ref b, .int 0]) ++ List.replicate (2 - (lg_sl ([.ref b, .int 0])).length) Slot.unset).toArray = ls at hl ⊢
  have hl : Lv ls 2 [some (.ref b), some (.int 0)] := hl
  have fin : ∀ (v : Int32), v = cl0 L xs → W p l e (headSpec (wS yL_cell cL_cell 2 (some .int)) rm_cell).room s m [Value.ref b, Value.int 0].toArray below meth c s.heap [] 0 0 (MQ below (fun _ st oc t => oc = .returned (some (.int (cl0 L xs))) ∧ t.heap = st.heap) [Value.ref b, Value.int 0].toArray s 0 0 (fun _ => False)) (F0 m 13 ls [.int v]) := fun v hv => W.iret (v := v) hx hb hr (fun t ht hW => ⟨by rw [hv], ht⟩) (fun q hq => by cases hq) dL_cell_13 B.notSynchronized
  refine lv_iload_n hx hb dL_cell_0 rfl (hl.2.2 1 _ rfl) ?_
  refine lv_aload_n hx hb dL_cell_1 rfl (hl.2.2 0 _ rfl) ?_
  refine va_slen hx hb hX hbl hbA hS dL_cell_2 ?_
  refine lv_icmp_ge (tgt := 12) hx hb dL_cell_3 (by decide) (fun c1 => ?_) (fun c1 => ?_)
  · refine lv_iconst (v := 0) hx hb dL_cell_12 (by decide) ?_
    refine fin 0 ?_
    have : L = 0 := by
      rcases Nat.eq_zero_or_pos L with h | h
      · exact h
      · exact absurd c1 (nI_ge (a := 0) (b := L) h (by omega))
    rw [cl0, if_neg (by omega)]
  · have hp : 0 < L := by
      rcases Nat.eq_zero_or_pos L with h | h
      · subst h; exact absurd (Int32.le_refl _) c1
      · exact h
    refine lv_aload_n hx hb dL_cell_6 rfl (hl.2.2 0 _ rfl) ?_
    refine lv_iload_n hx hb dL_cell_7 rfl (hl.2.2 1 _ rfl) ?_
    refine va_sld hx hb hX hbl hbA hS (i := 0) (vp_in_nI (n := 0) hp (by omega)) dL_cell_8 ?_
    refine lv_goto (tgt := 13) hx hb dL_cell_9 (by decide) ?_
    exact fin _ (by rw [cl0, if_pos hp]; rfl)

section ST0
variable {p : Program} {l : Launch} {e : Env} {R : Room} {s : State} {m : MethodId} {args : Array Value} {below : List Frame} {meth : Method} {c : Code} {D : va_G} {cA : Nat → ClassId} {N0 nL cells slots : Nat} {Qf : State → Prop} {cc : ByteArray} {own : String} {es : List va_E} {pc : Nat} {lv lv' : List (Option Value)} {st : List Value}
theorem b_cell (E : Eb p s m args meth c D cA N0 nL cc own) {b L index : Nat} {xs : Nat → Int32} {rest : List Value} (hL : L ≤ 2561) (hX : va_X b L xs s s.heap) (hbl : b < s.heap.size) (hN : N0 = s.heap.size) (hml : Cond.methodLink own index yL_cell ∈ WS) (hf : rOk rm_cell R 2 = true) (hst : st = .int 0 :: .ref b :: rest) (h8 : cat8 rest = true) (hd : decode cc pc = .ok (.invokestatic index, 3)) (hcells : Nat.ble cells R.cells = true) (hslots : Nat.ble slots R.slots = true) (kk : GB p l e R s m args below meth c D N0 nL Qf cells slots es (pc + 3) lv (.int (cl0 L xs) :: rest)) : GB p l e R s m args below meth c D N0 nL Qf cells slots es pc lv st := by
  obtain ⟨c1, c2, c3, c4⟩ := cs_L_cell
  obtain ⟨g1, g2, g3⟩ := rOk_spec hf
  intro H locs ls hB hS hl T hT Z
  have hXH : va_X b L xs s H := hX.kept (hS.2.1 b hbl (by rw [hN]; exact Nat.not_le.mpr hbl))
  have hr := va_runS (l := l) (e := e) (below := below) (meth := meth) (cells := cells) (slots := slots) (locs := locs) (H := H) (g := F0 m pc ls st) (As := [.ref b, .int 0]) (rest := rest) ⟨E.x, E.b, E.ml, E.ow, E.ts⟩ (c_L_cell b L xs hL) ⟨callB_of 2 E.ts (wS_good (fun w h => h) c3) rfl g2 g3 (E.ts _ c2) (E.ts _ hml) c4 g1, E.ts _ c1⟩ ⟨fun a U g mk h => ⟨h.1, va_X.moved (u := U) (U := U.calling g mk a) (Vm.Alike.refl U.vm) h.2⟩, fun U hU hW => ⟨rfl, by show va_X b L xs U U.heap; rw [hU]; exact va_X.moved hW.alike hXH⟩⟩ rfl rfl hl.1 hst (lv_room (Nat.le_of_ble_eq_true h8)) hd ⟨Nat.le_of_ble_eq_true hcells, Nat.le_of_ble_eq_true hslots⟩
  obtain ⟨v, st₀, t, T', L1, h0, Z', hL1, e1, e2, ⟨hv, hh⟩, sg⟩ := hr T hT Z
  cases hv
  have hTH : T'.heap = H := by rw [e1, hh, h0]
  obtain ⟨t2, a1, b1⟩ := kk H (locs ++ L1) ls hB ⟨hS.1, hS.2.1, fun q hq => by
    rcases List.mem_append.mp hq with h | h
    · exact hS.2.2 q h
    · exact (hL1 q h).elim⟩ hl T' hTH Z'
  exact ⟨t2, sg t2 a1, b1⟩
end ST0

def tmS (i : Nat) : Term := Term.string RX2 (txL.getD i (0, "")).1
def nrw : Cond := Jvm.Cond.and given_1 narrow_1
theorem ns_ex : ∀ i, i < 7 → Cond.exactly (tmS i) "java/lang/String" ∈ flatC nrw := by decide +kernel
theorem ns_co : ∀ i, i < 7 → Cond.eq (.field (tmS i) "java/lang/String" "coder" "B") (.int 0) ∈ flatC nrw := by decide +kernel
theorem ns_ar : ∀ i, i < 7 → Cond.arrayOf (.field (tmS i) "java/lang/String" "value" "[B") .byte ∈ flatC nrw := by decide +kernel
theorem ns_le : ∀ i, i < 7 → Cond.eq (.length (.field (tmS i) "java/lang/String" "value" "[B")) (.int (Int32.ofNat (lenS.getD i 0))) ∈ flatC nrw := by decide +kernel
theorem ns_el : ∀ i, i < 7 → ∀ j, j < lenS.getD i 0 → Cond.eq (.elem (.field (tmS i) "java/lang/String" "value" "[B") (.int (Int32.ofNat j))) (.int ((bytS.getD i []).getD j 0)) ∈ flatC nrw := by decide +kernel
theorem ns_ne : ∀ i, i < 7 → ∀ j, j < 7 → i ≠ j → (Cond.not (Cond.eq (tmS i) (tmS j)) ∈ flatC nrw ∨ Cond.not (Cond.eq (tmS j) (tmS i)) ∈ flatC nrw) := by decide +kernel
theorem ns_cs : Cond.eq (.static "java/lang/String" "COMPACT_STRINGS" "Z") (.int 1) ∈ flatC nrw := by decide +kernel
theorem ns_sf : Cond.isRef (.static "jdk/internal/util/Preconditions" "SIOOBE_FORMATTER" "Ljava/util/function/BiFunction;") ∈ flatC nrw := by decide +kernel
def srL : List Nat := [528, 592, 611, 585, 586, 587, 606]
theorem ns_sr : ∀ i, i < 7 → lw_tbl[srL.getD i 0]? = some (Cond.stringRef RX2 (txL.getD i (0, "")).1 (txL.getD i (0, "")).2) := by decide +kernel
def nsL : List Nat := [90, 140, 146, 193, 230, 249, 269]
theorem ns_nl : ∀ i, i < 7 → ∀ q, nestL[i]? = some q → lw_tbl[nsL.getD i 0]? = some (Cond.methodLinkNest q.1 q.2.1 q.2.2 RX8) := by
  intro i hi
  rcases (show i = 0 ∨ i = 1 ∨ i = 2 ∨ i = 3 ∨ i = 4 ∨ i = 5 ∨ i = 6 by omega) with rfl | rfl | rfl | rfl | rfl | rfl | rfl <;> (intro q hq; cases hq; decide +kernel)

set_option maxHeartbeats 4000000 in
theorem law_tables {p : Program} {s : State} {m : MethodId} {meth : Method} {c : Code} {b L : Nat} {xs : Nat → Int32} (C0 : lw_At p s m meth c b L xs) : ∃ (D : va_G) (cA adK adV : Nat → ClassId), Kn D cA s ∧ (∀ X : XT, xD X = D → xc X = cA → xk X = adK → xv X = adV → Kb X s ∧ Sb X (fun q => s.heap.size ≤ q) s s.heap) := by
  obtain ⟨hx, hb, hr, hml, hown, hts, hX, hbl, hlocks, hgv⟩ := id C0
  have hW := i_ws hts
  have hs := flat_of_before nrw hgv
  have hA : ∀ a : Nat, a < s.heap.size → ¬ (fun q : Nat => s.heap.size ≤ q) a := fun a h => Nat.not_le.mpr h
  obtain ⟨c0, iS0, hKn0⟩ := u_known (C := RX0) (T := TX0) (N := 2) (n := 2) hW iw_0 (hW _ q_248)
  obtain ⟨c1, iS1, hKn1⟩ := u_known (C := RX1) (T := TX1) (N := 4) (n := 4) hW iw_1 (hW _ q_229)
  obtain ⟨c2, iS2, hKn2⟩ := u_known (C := RX2) (T := TX2) (N := 9) (n := 9) hW iw_2 (hW _ q_139)
  obtain ⟨c3, iS3, hKn3⟩ := u_known (C := RX3) (T := TX3) (N := 8) (n := 8) hW iw_3 (hW _ q_192)
  obtain ⟨c4, iS4, hKn4⟩ := u_known (C := RX4) (T := TX4) (N := 7) (n := 7) hW iw_4 (hW _ q_268)
  obtain ⟨c5, iS5, hKn5⟩ := u_known (C := RX5) (T := TX5) (N := 2) (n := 2) hW iw_5 (hW _ q_145)
  obtain ⟨c6, iS6, hKn6⟩ := u_known (C := RX6) (T := TX6) (N := 7) (n := 7) hW iw_6 (hW _ q_89)
  obtain ⟨c7, iS7, hKn7⟩ := u_known (C := RX7) (T := TX7) (N := 5) (n := 5) hW iw_7 (hW _ q_82)
  obtain ⟨c8, iS8, hKn8⟩ := u_known (C := RX8) (T := TX8) (N := 16) (n := 16) hW iw_8 (hW _ q_72)
  obtain ⟨c9, iS9, hKn9⟩ := u_known (C := RX9) (T := TX9) (N := 55) (n := 55) hW iw_9 (hW _ q_771)
  obtain ⟨dC, dI, hKc⟩ : ∃ (dC : Nat → ClassId) (dI : Nat → Nat → Nat), ∀ (k : Nat) (q : vw_C), vwCl[k]? = some q → u_Kn s q.1 q.2.1 q.2.2 (dC k) (dI k) := by
    refine ⟨fun k => if k = 0 then c0 else if k = 1 then c1 else if k = 2 then c2 else if k = 3 then c3 else if k = 4 then c4 else if k = 5 then c5 else if k = 6 then c6 else if k = 7 then c7 else if k = 8 then c8 else c9, fun k => if k = 0 then iS0 else if k = 1 then iS1 else if k = 2 then iS2 else if k = 3 then iS3 else if k = 4 then iS4 else if k = 5 then iS5 else if k = 6 then iS6 else if k = 7 then iS7 else if k = 8 then iS8 else iS9, ?_⟩
    intro k q hq
    match k, hq with
    | 0, hq => cases hq; exact hKn0
    | 1, hq => cases hq; exact hKn1
    | 2, hq => cases hq; exact hKn2
    | 3, hq => cases hq; exact hKn3
    | 4, hq => cases hq; exact hKn4
    | 5, hq => cases hq; exact hKn5
    | 6, hq => cases hq; exact hKn6
    | 7, hq => cases hq; exact hKn7
    | 8, hq => cases hq; exact hKn8
    | 9, hq => cases hq; exact hKn9
    | k + 10, hq => simp [vwCl] at hq
  obtain ⟨a0, k0, p0, f0, g0, h0⟩ := Cond.arrayClass_spec (hW _ q_227)
  obtain ⟨a1, k1, p1, f1, g1, h1⟩ := Cond.arrayClass_spec (hW _ q_159)
  have hS4 : va_AO RX4 s := va_AO.of (hts (.arrayOver (.object RX4)) (List.mem_of_getElem? (i := 80) (by decide +kernel)))
  have hS6 : va_AO RX6 s := va_AO.of (hts (.arrayOver (.object RX6)) (List.mem_of_getElem? (i := 88) (by decide +kernel)))
  obtain ⟨p2, a2, k2, f2, _, g2, h2, n2⟩ := Cond.arrayOver_spec hS4
  obtain ⟨p3, a3, k3, f3, _, g3, h3, n3⟩ := Cond.arrayOver_spec hS6
  have hK : va_K (dC, dI) vwCl (tyC (fun k => if k = 0 then a0 else if k = 1 then a1 else if k = 2 then a2 else a3)) s := by
    refine ⟨hKc, fun k q hq => ?_⟩
    match k, hq with
    | 0, hq => cases hq; exact ⟨fun n z => ⟨fun k h => (by cases h), k0, g0, p0, h0⟩, f0⟩
    | 1, hq => cases hq; exact ⟨fun n z => ⟨fun k h => (by cases h), k1, g1, p1, h1⟩, f1⟩
    | 2, hq => cases hq; exact ⟨fun n z => ⟨fun k h => (by cases h), k2, g2, p2, h2⟩, k2, p2, g2, h2, f2, n2⟩
    | 3, hq => cases hq; exact ⟨fun n z => ⟨fun k h => (by cases h), k3, g3, p3, h3⟩, k3, p3, g3, h3, f3, n3⟩
    | k + 4, hq => simp [tyC] at hq
  obtain ⟨adK, adV, hV, hE⟩ := vk_Sof (args := #[Value.ref b]) (s := s) (N := 7) (tm := tmS) (len := lenS) (byt := bytS) (A := fun q => s.heap.size ≤ q) (by decide +kernel) (fun i hi => hs _ (ns_ex i hi)) (fun i hi => hs _ (ns_co i hi)) (fun i hi => hs _ (ns_ar i hi)) (fun i hi => hs _ (ns_le i hi)) (fun i hi j hj => hs _ (ns_el i hi j hj)) (fun i j hi hj h => (ns_ne i hi j hj h).imp (hs _) (hs _)) hA
  have hZ : va_Z "java/lang/String" "COMPACT_STRINGS" "Z" (.int 1) (fun q => s.heap.size ≤ q) s s.heap := va_Zof (hts (.laysStatic "java/lang/String" "COMPACT_STRINGS" "Z") (List.mem_of_getElem? (i := 542) (by decide +kernel))) (hW _ q_66) (va_eqi (hs _ ns_cs)) hA
  have hQ : va_Zq "jdk/internal/util/Preconditions" "SIOOBE_FORMATTER" "Ljava/util/function/BiFunction;" (fun q => s.heap.size ≤ q) s s.heap := va_Zqof (hts (.laysStatic "jdk/internal/util/Preconditions" "SIOOBE_FORMATTER" "Ljava/util/function/BiFunction;") (List.mem_of_getElem? (i := 558) (by decide +kernel))) (hW _ q_68) (hs _ ns_sf) hA
  refine ⟨(dC, dI), _, adK, adV, ⟨hK, hS4, hS6, fun i q hq => ?_⟩, fun X e1 e2 e3 e4 => ⟨⟨by rw [e1, tyL, e2]; exact hK, ?_, ?_, fun i hi => ?_⟩, by rw [Sb, e3, e4]; exact ⟨hV, hZ, hQ⟩⟩⟩
  · have hi : i < 7 := (List.getElem?_eq_some_iff.mp hq).1
    exact va_Nw.of rfl (hts _ (List.mem_of_getElem? (ns_nl i hi q hq)))
  · exact va_Nw.of rfl (hts (.methodLinkNest RX2 101 yX8_within RX8) (List.mem_of_getElem? (i := 605) (by decide +kernel)))
  · exact va_Nw.of rfl (hts (.methodLinkNest RX1 46 yX8_within RX8) (List.mem_of_getElem? (i := 689) (by decide +kernel)))
  · rw [e3]
    exact vk_R.of (hts _ (List.mem_of_getElem? (ns_sr i hi))) (hE i hi)

