abbrev rmJ7_fill_d0a16 : Room := { frames := 0, cells := 0, slots := 0, locals := 0 }
theorem cp_J7_fill_d0a16 : CP yJ7_fill_d0a16 RJ7 wsJ7_fill_d0a16 5 2 rmJ7_fill_d0a16 := ⟨⟨_, _, _, rfl⟩, rfl, rfl, by decide +kernel⟩
set_option maxHeartbeats 4000000 in
set_option maxRecDepth 100000 in
theorem c_J7_fill_d0a16 (l : Launch) (E : EV) (aa : Nat) (nn : Nat) (v : Int64) (f : Nat → Int64) (h1 : nn < 2 ^ 31) : CV l yJ7_fill_d0a16 wsJ7_fill_d0a16 rmJ7_fill_d0a16 E [.ref aa, .long v] [(aa, arJ E nn f)] [(aa, arJ E nn (fun _ => v))] := by
  refine CV.of (own := RJ7) (cc := cJ7_fill_d0a16) (nL := 5) (rt := none) (by decide) rfl rfl (Nat.le_of_ble_eq_true rfl) (fun X hX hQ => ?_)
  show G E X 5 0 [(0, .ref aa), (1, .long v)] [] [(aa, arJ E nn f)]
  refine G.iconst hX (v := 0) (by decide) dJ7_fill_d0a16_0 ?_
  refine G.istore_n hX (lv' := [(3, .int 0), (0, .ref aa), (1, .long v)]) rfl (by decide) rfl dJ7_fill_d0a16_1 ?_
  refine G.aload_n hX 1 rfl dJ7_fill_d0a16_2 ?_
  refine G.alen hX (v := nI nn) 0 1 rfl rfl rfl dJ7_fill_d0a16_3 ?_
  refine G.istore hX (lv' := [(4, .int (nI nn)), (3, .int 0), (0, .ref aa), (1, .long v)]) (by decide) rfl dJ7_fill_d0a16_4 ?_
  have L6 : ∀ (n : Nat) (i : Nat), i ≤ nn → nn + 1 ≤ i + n → G E X 5 6 [(0, .ref aa), (1, .long v), (3, .int (nI i)), (4, .int (nI nn))] [] [(aa, arJ E nn (cpL i (fun _ => v) f))] := by
    intro n
    induction n with
    | zero => intro i hl6_0 hl6_1; exact absurd hl6_1 (by omega)
    | succ n ih6 =>
      intro i hl6_0 hl6_1
      refine G.iload_n hX 2 rfl dJ7_fill_d0a16_6 ?_
      refine G.iload hX 3 rfl dJ7_fill_d0a16_7 ?_
      refine G.n_ge hX (a := i) (b := nn) (tgt := 22) (by omega) (by omega) (by decide) dJ7_fill_d0a16_9 (fun c9 => ?_) (fun c9 => ?_)
      · obtain rfl : nn = i := by omega
        refine G.extL (g := fun _ => v) (ws' := [(aa, arJ E nn (fun _ => v))]) 0 rfl (fun j hj => cpL_in hj) rfl ?_
        exact G.vret hX hQ dJ7_fill_d0a16_22 (by rfl)
      · refine G.aload_n hX 0 rfl dJ7_fill_d0a16_12 ?_
        refine G.iload_n hX 2 rfl dJ7_fill_d0a16_13 ?_
        refine G.lload_n hX 1 rfl dJ7_fill_d0a16_14 ?_
        refine G.last hX (j := i) (ws' := [(aa, arJ E nn (vp_updL (cpL i (fun _ => v) f) i v))]) 0 rfl (by omega) (by omega) rfl rfl dJ7_fill_d0a16_15 ?_
        refine G.iinc hX (n := 1) (lv' := [(3, .int (nI (i + 1))), (0, .ref aa), (1, .long v), (4, .int (nI nn))]) 2 rfl (inc_nI i 1 rfl) (by decide) rfl dJ7_fill_d0a16_16 ?_
        refine G.goto hX (tgt := 6) (by decide) dJ7_fill_d0a16_19 ?_
        refine G.lvp (lv' := [(0, .ref aa), (1, .long v), (3, .int (nI (i + 1))), (4, .int (nI nn))]) [1, 2, 0, 3] rfl ?_
        refine G.lve (lv' := [(0, .ref aa), (1, .long v), (3, .int (nI ((i + 1)))), (4, .int (nI nn))]) (by rfl) ?_
        refine G.we (ws' := [(aa, arJ E nn (cpL (i + 1) (fun _ => v) f))]) (by rw [← cpL_s]) ?_
        exact ih6 (i + 1) (by omega) (by omega)
  refine G.lvp (lv' := [(0, .ref aa), (1, .long v), (3, .int 0), (4, .int (nI nn))]) [2, 3, 1, 0] rfl ?_
  refine G.lve (lv' := [(0, .ref aa), (1, .long v), (3, .int (nI 0)), (4, .int (nI nn))]) (by rfl) ?_
  refine G.we (ws' := [(aa, arJ E nn (cpL 0 (fun _ => v) f))]) (by rw [cpL_0]) ?_
  exact L6 (nn + 1) 0 (by omega) (by omega)
abbrev rmX1_layNew : Room := { frames := 1, cells := 0, slots := 0, locals := 24 }
theorem cp_X1_layNew : CP yX1_layNew RX1 wsX1_layNew 3 2 rmX1_layNew := ⟨⟨_, _, _, rfl⟩, rfl, rfl, by decide +kernel⟩
theorem inc_X1_layNew_1 : ∀ w ∈ u_ws RX1 TX1 3, w ∈ wsX1_layNew := by decide +kernel
set_option maxHeartbeats 4000000 in
set_option maxRecDepth 100000 in
theorem c_X1_layNew (l : Launch) (E : EV) (b : Int32) (z : Nat) (a : Nat → Nat) (bt : Int32) (sz : Int32) (nu : Nat → Int64)  : CV l yX1_layNew wsX1_layNew rmX1_layNew E [.ref (a 0), .int b, .int (nI z)] [(a 0, shO a bt sz), (a 1, arJ E 40 nu)] [(a 0, shO a b (if b = 0 then 0 else nI z)), (a 1, arJ E 40 (fun _ => 0))] := by
  refine CV.of (own := RX1) (cc := cX1_layNew) (nL := 3) (rt := none) (by decide) rfl rfl (Nat.le_of_ble_eq_true rfl) (fun X hX hQ => ?_)
  show G E X 3 0 [(0, .ref (a 0)), (1, .int b), (2, .int (nI z))] [] [(a 0, shO a bt sz), (a 1, arJ E 40 nu)]
  refine G.aload_n hX 0 rfl dX1_layNew_0 ?_
  refine G.iload_n hX 1 rfl dX1_layNew_1 ?_
  refine G.put hX (ws' := [(a 0, shO a b sz), (a 1, arJ E 40 nu)]) inc_X1_layNew_1 tyX1 tyX1_ok nmX1 0 rfl rfl 0 (by decide) (by decide +kernel) rfl (tyX1_ok 0 (by decide)) rfl rfl (Nat.le_of_ble_eq_true rfl) rfl rfl dX1_layNew_2 ?_
  refine G.aload_n hX 0 rfl dX1_layNew_5 ?_
  have J15 : G E X 3 15 [(0, .ref (a 0))] [.int (if b = 0 then 0 else nI z), .ref (a 0)] [(a 0, shO a b sz), (a 1, arJ E 40 nu)] := by
    refine G.put hX (ws' := [(a 0, shO a b (if b = 0 then 0 else nI z)), (a 1, arJ E 40 nu)]) inc_X1_layNew_1 tyX1 tyX1_ok nmX1 0 rfl rfl 1 (by decide) (by decide +kernel) rfl (tyX1_ok 1 (by decide)) rfl rfl (Nat.le_of_ble_eq_true rfl) rfl rfl dX1_layNew_15 ?_
    refine G.aload_n hX 0 rfl dX1_layNew_18 ?_
    refine G.get hX inc_X1_layNew_1 0 rfl rfl 2 (by decide) (by decide +kernel) rfl dX1_layNew_19 ?_
    refine G.lconst hX (v := 0) (by decide) dX1_layNew_22 ?_
    refine G.sv hX (As := [.ref (a 1), .long 0]) (st := []) (wr := [(a 0, shO a b (if b = 0 then 0 else nI z))]) (wf := [(a 0, shO a b (if b = 0 then 0 else nI z)), ((a 1), arJ E 40 (fun _ => 0))]) (c_J7_fill_d0a16 _ E (aa := a 1) (nn := 40) (v := 0) (f := nu) (h1 := by omega)) gX1_layNew_J7_fill_d0a16 cp_J7_fill_d0a16 (by decide) [1] [0] [0, 1] ⟨rfl, rfl, by decide, rfl⟩ rfl rfl (Nat.le_of_ble_eq_true rfl) dX1_layNew_23 ?_
    exact G.vret hX hQ dX1_layNew_26 (by rfl)
  refine G.iload_n hX 1 rfl dX1_layNew_6 ?_
  refine G.if_ne hX (tgt := 14) (by decide) dX1_layNew_7 (fun c7 => ?_) (fun c7 => ?_)
  · refine G.iload_n hX 2 rfl dX1_layNew_14 ?_
    refine G.lvp (lv' := [(0, .ref (a 0))]) [0] rfl ?_
    refine G.ve (y := .int (if b = 0 then 0 else nI z)) (by first | rfl | (simp only [c7, ↓reduceIte, Bool.not_true, Bool.not_false, Bool.and_true, Bool.true_and, Bool.and_false, Bool.false_and, Bool.or_true, Bool.true_or, Bool.or_false, Bool.false_or, decide_true, decide_false, not_true_eq_false, not_false_eq_true, Bool.false_eq_true, Bool.true_eq_false]; done) | (simp only [c7, ↓reduceIte, Bool.not_true, Bool.not_false, Bool.and_true, Bool.true_and, Bool.and_false, Bool.false_and, Bool.or_true, Bool.true_or, Bool.or_false, Bool.false_or, decide_true, decide_false, not_true_eq_false, not_false_eq_true, Bool.false_eq_true, Bool.true_eq_false]; rfl) | (simp [c7]; done)) ?_
    exact J15
  · refine G.iconst hX (v := 0) (by decide) dX1_layNew_10 ?_
    refine G.goto hX (tgt := 15) (by decide) dX1_layNew_11 ?_
    refine G.lvp (lv' := [(0, .ref (a 0))]) [0] rfl ?_
    refine G.ve (y := .int (if b = 0 then 0 else nI z)) (by first | rfl | (simp only [c7, ↓reduceIte, Bool.not_true, Bool.not_false, Bool.and_true, Bool.true_and, Bool.and_false, Bool.false_and, Bool.or_true, Bool.true_or, Bool.or_false, Bool.false_or, decide_true, decide_false, not_true_eq_false, not_false_eq_true, Bool.false_eq_true, Bool.true_eq_false]; done) | (simp only [c7, ↓reduceIte, Bool.not_true, Bool.not_false, Bool.and_true, Bool.true_and, Bool.and_false, Bool.false_and, Bool.or_true, Bool.true_or, Bool.or_false, Bool.false_or, decide_true, decide_false, not_true_eq_false, not_false_eq_true, Bool.false_eq_true, Bool.true_eq_false]; rfl) | (simp [c7]; done)) ?_
    exact J15
abbrev rmX1_isMissing : Room := { frames := 0, cells := 0, slots := 0, locals := 0 }
theorem cp_X1_isMissing : CP yX1_isMissing RX1 wsX1_isMissing 1 0 rmX1_isMissing := ⟨⟨_, _, _, rfl⟩, rfl, rfl, by decide +kernel⟩
theorem inc_X1_isMissing_1 : ∀ w ∈ u_ws RX1 TX1 3, w ∈ wsX1_isMissing := by decide +kernel
set_option maxHeartbeats 4000000 in
set_option maxRecDepth 100000 in
theorem c_X1_isMissing (l : Launch) (E : EV) (a : Nat → Nat) (bt : Int32) (sz : Int32)  : CI l yX1_isMissing wsX1_isMissing rmX1_isMissing E [.ref (a 0)] [(a 0, shO a bt sz)] [(a 0, shO a bt sz)] (bI (decide (bt = 0))) := by
  refine CI.of (own := RX1) (cc := cX1_isMissing) (nL := 1) (rt := (some .boolean)) (by decide) rfl rfl (Nat.le_of_ble_eq_true rfl) (fun X hX hQ => ?_)
  show G E X 1 0 [(0, .ref (a 0))] [] [(a 0, shO a bt sz)]
  refine G.aload_n hX 0 rfl dX1_isMissing_0 ?_
  refine G.get hX inc_X1_isMissing_1 0 rfl rfl 0 (by decide) (by decide +kernel) rfl dX1_isMissing_1 ?_
  refine G.if_ne hX (tgt := 11) (by decide) dX1_isMissing_4 (fun c4 => ?_) (fun c4 => ?_)
  · refine G.iconst hX (v := 0) (by decide) dX1_isMissing_11 ?_
    exact G.zret hX hQ rfl dX1_isMissing_12 (bI_0.mpr (by first | rfl | (simp only [c4, ↓reduceIte, Bool.not_true, Bool.not_false, Bool.and_true, Bool.true_and, Bool.and_false, Bool.false_and, Bool.or_true, Bool.true_or, Bool.or_false, Bool.false_or, decide_true, decide_false, not_true_eq_false, not_false_eq_true, Bool.false_eq_true, Bool.true_eq_false]; done) | (simp only [c4, ↓reduceIte, Bool.not_true, Bool.not_false, Bool.and_true, Bool.true_and, Bool.and_false, Bool.false_and, Bool.or_true, Bool.true_or, Bool.or_false, Bool.false_or, decide_true, decide_false, not_true_eq_false, not_false_eq_true, Bool.false_eq_true, Bool.true_eq_false]; rfl) | (simp [c4]; done))).symm (by rfl)
  · refine G.iconst hX (v := 1) (by decide) dX1_isMissing_7 ?_
    refine G.goto hX (tgt := 12) (by decide) dX1_isMissing_8 ?_
    exact G.zret hX hQ rfl dX1_isMissing_12 (bI_1.mpr (by first | rfl | (simp only [c4, ↓reduceIte, Bool.not_true, Bool.not_false, Bool.and_true, Bool.true_and, Bool.and_false, Bool.false_and, Bool.or_true, Bool.true_or, Bool.or_false, Bool.false_or, decide_true, decide_false, not_true_eq_false, not_false_eq_true, Bool.false_eq_true, Bool.true_eq_false]; done) | (simp only [c4, ↓reduceIte, Bool.not_true, Bool.not_false, Bool.and_true, Bool.true_and, Bool.and_false, Bool.false_and, Bool.or_true, Bool.true_or, Bool.or_false, Bool.false_or, decide_true, decide_false, not_true_eq_false, not_false_eq_true, Bool.false_eq_true, Bool.true_eq_false]; rfl) | (simp [c4]; done))).symm (by rfl)
abbrev rmX1_has : Room := { frames := 0, cells := 0, slots := 0, locals := 0 }
theorem cp_X1_has : CP yX1_has RX1 wsX1_has 3 2 rmX1_has := ⟨⟨_, _, _, rfl⟩, rfl, rfl, by decide +kernel⟩
theorem inc_X1_has_1 : ∀ w ∈ u_ws RX1 TX1 3, w ∈ wsX1_has := by decide +kernel
set_option maxHeartbeats 4000000 in
set_option maxRecDepth 100000 in
theorem c_X1_hasn (l : Launch) (E : EV) (f : Nat) (k : Nat) (z : Nat) (a : Nat → Nat) (bt : Int32) (h1 : f + k ≤ z) (h2 : z ≤ 40) : CI l yX1_has wsX1_has rmX1_has E [.ref (a 0), .int (nI f), .int (nI k)] [(a 0, shO a bt (nI z))] [(a 0, shO a bt (nI z))] 1 := by
  refine CI.of (own := RX1) (cc := cX1_has) (nL := 3) (rt := (some .boolean)) (by decide) rfl rfl (Nat.le_of_ble_eq_true rfl) (fun X hX hQ => ?_)
  show G E X 3 0 [(0, .ref (a 0)), (1, .int (nI f)), (2, .int (nI k))] [] [(a 0, shO a bt (nI z))]
  refine G.iload_n hX 1 rfl dX1_has_0 ?_
  refine G.if_lt hX (tgt := 30) (by decide) dX1_has_1 (fun c1 => absurd c1 (nI_pos (by omega))) (fun _ => ?_)
  refine G.iload_n hX 2 rfl dX1_has_4 ?_
  refine G.if_lt hX (tgt := 30) (by decide) dX1_has_5 (fun c5 => absurd c5 (nI_pos (by omega))) (fun _ => ?_)
  refine G.iload_n hX 2 rfl dX1_has_8 ?_
  refine G.aload_n hX 0 rfl dX1_has_9 ?_
  refine G.get hX inc_X1_has_1 0 rfl rfl 1 (by decide) (by decide +kernel) rfl dX1_has_10 ?_
  refine G.n_gt hX (a := k) (b := z) (tgt := 30) (by omega) (by omega) (by decide) dX1_has_13 (fun c13 => ?_) (fun c13 => ?_)
  · exact absurd h1 (by omega)
  · refine G.iload_n hX 1 rfl dX1_has_16 ?_
    refine G.aload_n hX 0 rfl dX1_has_17 ?_
    refine G.get hX inc_X1_has_1 0 rfl rfl 1 (by decide) (by decide +kernel) rfl dX1_has_18 ?_
    refine G.iload_n hX 2 rfl dX1_has_21 ?_
    refine G.isub hX dX1_has_22 ?_
    refine G.ie (pk_sub (a := z) (b := k) (by omega)) ?_
    refine G.n_gt hX (a := f) (b := z - k) (tgt := 30) (by omega) (by omega) (by decide) dX1_has_23 (fun c23 => ?_) (fun c23 => ?_)
    · exact absurd h1 (by omega)
    · refine G.iconst hX (v := 1) (by decide) dX1_has_26 ?_
      refine G.goto hX (tgt := 31) (by decide) dX1_has_27 ?_
      exact G.zret hX hQ rfl dX1_has_31 (by rfl) (by rfl)
set_option maxHeartbeats 4000000 in
set_option maxRecDepth 100000 in
theorem c_X1_has (l : Launch) (E : EV) (f : Int32) (k : Int32) (a : Nat → Nat) (bt : Int32) (sz : Int32)  : CI l yX1_has wsX1_has rmX1_has E [.ref (a 0), .int f, .int k] [(a 0, shO a bt sz)] [(a 0, shO a bt sz)] (bI (hsOK f k sz)) := by
  refine CI.of (own := RX1) (cc := cX1_has) (nL := 3) (rt := (some .boolean)) (by decide) rfl rfl (Nat.le_of_ble_eq_true rfl) (fun X hX hQ => ?_)
  show G E X 3 0 [(0, .ref (a 0)), (1, .int f), (2, .int k)] [] [(a 0, shO a bt sz)]
  refine G.iload_n hX 1 rfl dX1_has_0 ?_
  refine G.if_lt hX (tgt := 30) (by decide) dX1_has_1 (fun c1 => ?_) (fun c1 => ?_)
  · refine G.iconst hX (v := 0) (by decide) dX1_has_30 ?_
    exact G.zret hX hQ rfl dX1_has_31 (bI_0.mpr (by first | rfl | (simp only [hsOK, c1, ↓reduceIte, Bool.not_true, Bool.not_false, Bool.and_true, Bool.true_and, Bool.and_false, Bool.false_and, Bool.or_true, Bool.true_or, Bool.or_false, Bool.false_or, decide_true, decide_false, not_true_eq_false, not_false_eq_true, Bool.false_eq_true, Bool.true_eq_false]; done) | (simp only [hsOK, c1, ↓reduceIte, Bool.not_true, Bool.not_false, Bool.and_true, Bool.true_and, Bool.and_false, Bool.false_and, Bool.or_true, Bool.true_or, Bool.or_false, Bool.false_or, decide_true, decide_false, not_true_eq_false, not_false_eq_true, Bool.false_eq_true, Bool.true_eq_false]; rfl) | (simp [hsOK, c1]; done))).symm (by rfl)
  · refine G.iload_n hX 2 rfl dX1_has_4 ?_
    refine G.if_lt hX (tgt := 30) (by decide) dX1_has_5 (fun c5 => ?_) (fun c5 => ?_)
    · refine G.iconst hX (v := 0) (by decide) dX1_has_30 ?_
      exact G.zret hX hQ rfl dX1_has_31 (bI_0.mpr (by first | rfl | (simp only [hsOK, c1, c5, ↓reduceIte, Bool.not_true, Bool.not_false, Bool.and_true, Bool.true_and, Bool.and_false, Bool.false_and, Bool.or_true, Bool.true_or, Bool.or_false, Bool.false_or, decide_true, decide_false, not_true_eq_false, not_false_eq_true, Bool.false_eq_true, Bool.true_eq_false]; done) | (simp only [hsOK, c1, c5, ↓reduceIte, Bool.not_true, Bool.not_false, Bool.and_true, Bool.true_and, Bool.and_false, Bool.false_and, Bool.or_true, Bool.true_or, Bool.or_false, Bool.false_or, decide_true, decide_false, not_true_eq_false, not_false_eq_true, Bool.false_eq_true, Bool.true_eq_false]; rfl) | (simp [hsOK, c1, c5]; done))).symm (by rfl)
    · refine G.iload_n hX 2 rfl dX1_has_8 ?_
      refine G.aload_n hX 0 rfl dX1_has_9 ?_
      refine G.get hX inc_X1_has_1 0 rfl rfl 1 (by decide) (by decide +kernel) rfl dX1_has_10 ?_
      refine G.icmp_gt hX (tgt := 30) (by decide) dX1_has_13 (fun c13 => ?_) (fun c13 => ?_)
      · refine G.iconst hX (v := 0) (by decide) dX1_has_30 ?_
        exact G.zret hX hQ rfl dX1_has_31 (bI_0.mpr (by first | rfl | (simp only [hsOK, c1, c5, c13, ↓reduceIte, Bool.not_true, Bool.not_false, Bool.and_true, Bool.true_and, Bool.and_false, Bool.false_and, Bool.or_true, Bool.true_or, Bool.or_false, Bool.false_or, decide_true, decide_false, not_true_eq_false, not_false_eq_true, Bool.false_eq_true, Bool.true_eq_false]; done) | (simp only [hsOK, c1, c5, c13, ↓reduceIte, Bool.not_true, Bool.not_false, Bool.and_true, Bool.true_and, Bool.and_false, Bool.false_and, Bool.or_true, Bool.true_or, Bool.or_false, Bool.false_or, decide_true, decide_false, not_true_eq_false, not_false_eq_true, Bool.false_eq_true, Bool.true_eq_false]; rfl) | (simp [hsOK, c1, c5, c13]; done))).symm (by rfl)
      · refine G.iload_n hX 1 rfl dX1_has_16 ?_
        refine G.aload_n hX 0 rfl dX1_has_17 ?_
        refine G.get hX inc_X1_has_1 0 rfl rfl 1 (by decide) (by decide +kernel) rfl dX1_has_18 ?_
        refine G.iload_n hX 2 rfl dX1_has_21 ?_
        refine G.isub hX dX1_has_22 ?_
        refine G.icmp_gt hX (tgt := 30) (by decide) dX1_has_23 (fun c23 => ?_) (fun c23 => ?_)
        · refine G.iconst hX (v := 0) (by decide) dX1_has_30 ?_
          exact G.zret hX hQ rfl dX1_has_31 (bI_0.mpr (by first | rfl | (simp only [hsOK, c1, c5, c13, c23, ↓reduceIte, Bool.not_true, Bool.not_false, Bool.and_true, Bool.true_and, Bool.and_false, Bool.false_and, Bool.or_true, Bool.true_or, Bool.or_false, Bool.false_or, decide_true, decide_false, not_true_eq_false, not_false_eq_true, Bool.false_eq_true, Bool.true_eq_false]; done) | (simp only [hsOK, c1, c5, c13, c23, ↓reduceIte, Bool.not_true, Bool.not_false, Bool.and_true, Bool.true_and, Bool.and_false, Bool.false_and, Bool.or_true, Bool.true_or, Bool.or_false, Bool.false_or, decide_true, decide_false, not_true_eq_false, not_false_eq_true, Bool.false_eq_true, Bool.true_eq_false]; rfl) | (simp [hsOK, c1, c5, c13, c23]; done))).symm (by rfl)
        · refine G.iconst hX (v := 1) (by decide) dX1_has_26 ?_
          refine G.goto hX (tgt := 31) (by decide) dX1_has_27 ?_
          exact G.zret hX hQ rfl dX1_has_31 (bI_1.mpr (by first | rfl | (simp only [hsOK, c1, c5, c13, c23, ↓reduceIte, Bool.not_true, Bool.not_false, Bool.and_true, Bool.true_and, Bool.and_false, Bool.false_and, Bool.or_true, Bool.true_or, Bool.or_false, Bool.false_or, decide_true, decide_false, not_true_eq_false, not_false_eq_true, Bool.false_eq_true, Bool.true_eq_false]; done) | (simp only [hsOK, c1, c5, c13, c23, ↓reduceIte, Bool.not_true, Bool.not_false, Bool.and_true, Bool.true_and, Bool.and_false, Bool.false_and, Bool.or_true, Bool.true_or, Bool.or_false, Bool.false_or, decide_true, decide_false, not_true_eq_false, not_false_eq_true, Bool.false_eq_true, Bool.true_eq_false]; rfl) | (simp [hsOK, c1, c5, c13, c23]; done))).symm (by rfl)
abbrev rmX1_put : Room := { frames := 0, cells := 0, slots := 0, locals := 0 }
theorem cp_X1_put : CP yX1_put RX1 wsX1_put 4 2 rmX1_put := ⟨⟨_, _, _, rfl⟩, rfl, rfl, by decide +kernel⟩
theorem inc_X1_put_1 : ∀ w ∈ u_ws RX1 TX1 3, w ∈ wsX1_put := by decide +kernel
set_option maxHeartbeats 4000000 in
set_option maxRecDepth 100000 in
theorem c_X1_put (l : Launch) (E : EV) (i : Nat) (v : Int64) (a : Nat → Nat) (bt : Int32) (sz : Int32) (nu : Nat → Int64) (h1 : i < 40) : CV l yX1_put wsX1_put rmX1_put E [.ref (a 0), .int (nI i), .long v] [(a 0, shO a bt sz), (a 1, arJ E 40 nu)] [(a 0, shO a bt sz), (a 1, arJ E 40 (vp_updL nu i (nrw bt v)))] := by
  refine CV.of (own := RX1) (cc := cX1_put) (nL := 4) (rt := none) (by decide) rfl rfl (Nat.le_of_ble_eq_true rfl) (fun X hX hQ => ?_)
  show G E X 4 0 [(0, .ref (a 0)), (1, .int (nI i)), (2, .long v)] [] [(a 0, shO a bt sz), (a 1, arJ E 40 nu)]
  refine G.aload_n hX 0 rfl dX1_put_0 ?_
  refine G.get hX inc_X1_put_1 0 rfl rfl 0 (by decide) (by decide +kernel) rfl dX1_put_1 ?_
  refine G.bipush hX (v := 8) (by decide) dX1_put_4 ?_
  refine G.icmp_ne hX (tgt := 22) (by decide) dX1_put_6 (fun c6 => ?_) (fun c6 => ?_)
  · refine G.aload_n hX 0 rfl dX1_put_22 ?_
    refine G.get hX inc_X1_put_1 0 rfl rfl 0 (by decide) (by decide +kernel) rfl dX1_put_23 ?_
    refine G.bipush hX (v := 16) (by decide) dX1_put_26 ?_
    refine G.icmp_ne hX (tgt := 44) (by decide) dX1_put_28 (fun c28 => ?_) (fun c28 => ?_)
    · refine G.aload_n hX 0 rfl dX1_put_44 ?_
      refine G.get hX inc_X1_put_1 0 rfl rfl 2 (by decide) (by decide +kernel) rfl dX1_put_45 ?_
      refine G.iload_n hX 1 rfl dX1_put_48 ?_
      refine G.lload_n hX 2 rfl dX1_put_49 ?_
      refine G.last hX (j := i) (ws' := [(a 0, shO a bt sz), (a 1, arJ E 40 (vp_updL nu i v))]) 1 rfl (by omega) (by omega) rfl rfl dX1_put_50 ?_
      exact G.vret hX hQ dX1_put_51 (by first | (rw [nrw, if_pos c6]; done) | (rw [nrw, if_neg c6, if_pos c28]; done) | (rw [nrw, if_neg c6, if_neg c28]; done))
    · refine G.aload_n hX 0 rfl dX1_put_31 ?_
      refine G.get hX inc_X1_put_1 0 rfl rfl 2 (by decide) (by decide +kernel) rfl dX1_put_32 ?_
      refine G.iload_n hX 1 rfl dX1_put_35 ?_
      refine G.lload_n hX 2 rfl dX1_put_36 ?_
      refine G.l2i hX dX1_put_37 ?_
      refine G.i2s hX dX1_put_38 ?_
      refine G.i2l hX dX1_put_39 ?_
      refine G.last hX (j := i) (ws' := [(a 0, shO a bt sz), (a 1, arJ E 40 (vp_updL nu i v.toInt32.toInt16.toInt32.toInt64))]) 1 rfl (by omega) (by omega) rfl rfl dX1_put_40 ?_
      refine G.goto hX (tgt := 51) (by decide) dX1_put_41 ?_
      exact G.vret hX hQ dX1_put_51 (by first | (rw [nrw, if_pos c6]; done) | (rw [nrw, if_neg c6, if_pos c28]; done) | (rw [nrw, if_neg c6, if_neg c28]; done))
  · refine G.aload_n hX 0 rfl dX1_put_9 ?_
    refine G.get hX inc_X1_put_1 0 rfl rfl 2 (by decide) (by decide +kernel) rfl dX1_put_10 ?_
    refine G.iload_n hX 1 rfl dX1_put_13 ?_
    refine G.lload_n hX 2 rfl dX1_put_14 ?_
    refine G.l2i hX dX1_put_15 ?_
    refine G.i2b hX dX1_put_16 ?_
    refine G.i2l hX dX1_put_17 ?_
    refine G.last hX (j := i) (ws' := [(a 0, shO a bt sz), (a 1, arJ E 40 (vp_updL nu i v.toInt32.toInt8.toInt32.toInt64))]) 1 rfl (by omega) (by omega) rfl rfl dX1_put_18 ?_
    refine G.goto hX (tgt := 51) (by decide) dX1_put_19 ?_
    exact G.vret hX hQ dX1_put_51 (by first | (rw [nrw, if_pos c6]; done) | (rw [nrw, if_neg c6, if_pos c28]; done) | (rw [nrw, if_neg c6, if_neg c28]; done))
abbrev rmX3_sheet : Room := { frames := 2, cells := 0, slots := 0, locals := 46 }
theorem cp_X3_sheet : CP yX3_sheet RX3 wsX3_sheet 4 3 rmX3_sheet := ⟨⟨_, _, _, rfl⟩, rfl, rfl, by decide +kernel⟩
theorem inc_X3_sheet_3 : ∀ w ∈ u_ws RX3 TX3 9, w ∈ wsX3_sheet := by decide +kernel
theorem inc_X3_sheet_1 : ∀ w ∈ u_ws RX1 TX1 3, w ∈ wsX3_sheet := by decide +kernel
set_option maxHeartbeats 4000000 in
set_option maxRecDepth 100000 in
theorem c_X3_sheetbad (l : Launch) (E : EV) (x : Int32) (b : Int32) (y : Int32) (ox : Nat → Nat) (rr : Nat → Nat) (rk : Nat → Nat) (rt : Nat → Nat) (rb : Nat → Nat) (xt : Nat → Nat) (kp : Int32) (fo : Nat → Int32) (h1 : (cIn 4 x && okB b) = false) : CI l yX3_sheet wsX3_sheet rmX3_sheet E [.ref (ox 0), .int x, .int b, .int y] [(ox 0, noO ox rr rk rt rb xt kp), (ox 3, arI E 7 fo)] [(ox 0, noO ox rr rk rt rb xt kp), (ox 3, arI E 7 (upd fo 0 (fo 0 + 1)))] ((-1000000001)) := by
  refine CI.of (own := RX3) (cc := cX3_sheet) (nL := 4) (rt := (some .int)) (by decide) rfl rfl (Nat.le_of_ble_eq_true rfl) (fun X hX hQ => ?_)
  show G E X 4 0 [(0, .ref (ox 0)), (1, .int x), (2, .int b), (3, .int y)] [] [(ox 0, noO ox rr rk rt rb xt kp), (ox 3, arI E 7 fo)]
  refine G.iload_n hX 1 rfl dX3_sheet_0 ?_
  refine G.s0i hX (As := [.int x]) (st := []) (c_X3_isSheet _ E (x := x) ) gX3_sheet_X3_isSheet cp_X3_isSheet (by decide) rfl rfl (Nat.le_of_ble_eq_true rfl) dX3_sheet_1 ?_
  refine G.b_eq hX (tgt := 14) (by decide) dX3_sheet_4 (fun c4 => ?_) (fun c4 => ?_)
  · refine G.aload_n hX 0 rfl dX3_sheet_14 ?_
    refine G.iconst hX (v := 0) (by decide) dX3_sheet_15 ?_
    refine G.vi hX (As := [.int 0]) (st := []) (wr := []) (wf := [(ox 0, noO ox rr rk rt rb xt kp), (ox 3, arI E 7 (upd fo 0 (fo 0 + 1)))]) (q0 := 0) (ci := 3) rfl rfl (c_X3_finding0 _ E (ox := ox) (rr := rr) (rk := rk) (rt := rt) (rb := rb) (xt := xt) (kp := kp) (fo := fo) ) gX3_sheet_X3_finding cp_X3_finding (by decide) [0, 1] [] [0, 1] ⟨rfl, rfl, by decide, rfl⟩ rfl rfl (Nat.le_of_ble_eq_true rfl) dX3_sheet_16 ?_
    exact G.iret hX hQ dX3_sheet_19 (by rfl) (by rfl)
  · refine G.iload_n hX 2 rfl dX3_sheet_7 ?_
    refine G.s0i hX (As := [.int b]) (st := []) (c_X3_isWidth _ E (b := b) ) gX3_sheet_X3_isWidth cp_X3_isWidth (by decide) rfl rfl (Nat.le_of_ble_eq_true rfl) dX3_sheet_8 ?_
    refine G.b_ne hX (tgt := 20) (by decide) dX3_sheet_11 (fun c11 => ?_) (fun c11 => ?_)
    · exact absurd h1 (by simp [c4, c11])
    · refine G.aload_n hX 0 rfl dX3_sheet_14 ?_
      refine G.iconst hX (v := 0) (by decide) dX3_sheet_15 ?_
      refine G.vi hX (As := [.int 0]) (st := []) (wr := []) (wf := [(ox 0, noO ox rr rk rt rb xt kp), (ox 3, arI E 7 (upd fo 0 (fo 0 + 1)))]) (q0 := 0) (ci := 3) rfl rfl (c_X3_finding0 _ E (ox := ox) (rr := rr) (rk := rk) (rt := rt) (rb := rb) (xt := xt) (kp := kp) (fo := fo) ) gX3_sheet_X3_finding cp_X3_finding (by decide) [0, 1] [] [0, 1] ⟨rfl, rfl, by decide, rfl⟩ rfl rfl (Nat.le_of_ble_eq_true rfl) dX3_sheet_16 ?_
      exact G.iret hX hQ dX3_sheet_19 (by rfl) (by rfl)
set_option maxHeartbeats 4000000 in
set_option maxRecDepth 100000 in
theorem c_X3_sheetsize (l : Launch) (E : EV) (sh : Nat) (b : Int32) (y : Int32) (ox : Nat → Nat) (rr : Nat → Nat) (rk : Nat → Nat) (rt : Nat → Nat) (rb : Nat → Nat) (xt : Nat → Nat) (kp : Int32) (fo : Nat → Int32) (h1 : sh < 4) (h2 : okB b = true) (h3 : ¬ 0 ≤ y) : CI l yX3_sheet wsX3_sheet rmX3_sheet E [.ref (ox 0), .int (nI sh), .int b, .int y] [(ox 0, noO ox rr rk rt rb xt kp), (ox 3, arI E 7 fo)] [(ox 0, noO ox rr rk rt rb xt kp), (ox 3, arI E 7 (upd fo 6 (fo 6 + 1)))] ((-1000000007)) := by
  refine CI.of (own := RX3) (cc := cX3_sheet) (nL := 4) (rt := (some .int)) (by decide) rfl rfl (Nat.le_of_ble_eq_true rfl) (fun X hX hQ => ?_)
  show G E X 4 0 [(0, .ref (ox 0)), (1, .int (nI sh)), (2, .int b), (3, .int y)] [] [(ox 0, noO ox rr rk rt rb xt kp), (ox 3, arI E 7 fo)]
  refine G.iload_n hX 1 rfl dX3_sheet_0 ?_
  refine G.s0i hX (As := [.int (nI sh)]) (st := []) (c_X3_isSheetn _ E (x := sh) (h1 := by omega)) gX3_sheet_X3_isSheet cp_X3_isSheet (by decide) rfl rfl (Nat.le_of_ble_eq_true rfl) dX3_sheet_1 ?_
  refine G.if_eq hX (tgt := 14) (by decide) dX3_sheet_4 (fun c4 => absurd c4 (by decide)) (fun _ => ?_)
  refine G.iload_n hX 2 rfl dX3_sheet_7 ?_
  refine G.s0i hX (As := [.int b]) (st := []) (c_X3_isWidth _ E (b := b) ) gX3_sheet_X3_isWidth cp_X3_isWidth (by decide) rfl rfl (Nat.le_of_ble_eq_true rfl) dX3_sheet_8 ?_
  refine G.b_ne hX (tgt := 20) (by decide) dX3_sheet_11 (fun c11 => ?_) (fun c11 => ?_)
  · refine G.iload_n hX 3 rfl dX3_sheet_20 ?_
    refine G.if_ge hX (tgt := 31) (by decide) dX3_sheet_21 (fun c21 => ?_) (fun c21 => ?_)
    · exact absurd c21 h3
    · refine G.aload_n hX 0 rfl dX3_sheet_24 ?_
      refine G.bipush hX (v := 6) (by decide) dX3_sheet_25 ?_
      refine G.vi hX (As := [.int 6]) (st := []) (wr := []) (wf := [(ox 0, noO ox rr rk rt rb xt kp), (ox 3, arI E 7 (upd fo 6 (fo 6 + 1)))]) (q0 := 0) (ci := 3) rfl rfl (c_X3_finding6 _ E (ox := ox) (rr := rr) (rk := rk) (rt := rt) (rb := rb) (xt := xt) (kp := kp) (fo := fo) ) gX3_sheet_X3_finding cp_X3_finding (by decide) [0, 1] [] [0, 1] ⟨rfl, rfl, by decide, rfl⟩ rfl rfl (Nat.le_of_ble_eq_true rfl) dX3_sheet_27 ?_
      exact G.iret hX hQ dX3_sheet_30 (by rfl) (by rfl)
  · exact absurd h2 (by simp [c11])
set_option maxHeartbeats 4000000 in
set_option maxRecDepth 100000 in
theorem c_X3_sheetbig (l : Launch) (E : EV) (sh : Nat) (b : Int32) (y : Int32) (ox : Nat → Nat) (rr : Nat → Nat) (rk : Nat → Nat) (rt : Nat → Nat) (rb : Nat → Nat) (xt : Nat → Nat) (kp : Int32) (fo : Nat → Int32) (h1 : sh < 4) (h2 : okB b = true) (h3 : 0 ≤ y) (h4 : ¬ y ≤ 40) : CI l yX3_sheet wsX3_sheet rmX3_sheet E [.ref (ox 0), .int (nI sh), .int b, .int y] [(ox 0, noO ox rr rk rt rb xt kp), (ox 3, arI E 7 fo)] [(ox 0, noO ox rr rk rt rb xt kp), (ox 3, arI E 7 (upd fo 0 (fo 0 + 1)))] ((-1000000001)) := by
  refine CI.of (own := RX3) (cc := cX3_sheet) (nL := 4) (rt := (some .int)) (by decide) rfl rfl (Nat.le_of_ble_eq_true rfl) (fun X hX hQ => ?_)
  show G E X 4 0 [(0, .ref (ox 0)), (1, .int (nI sh)), (2, .int b), (3, .int y)] [] [(ox 0, noO ox rr rk rt rb xt kp), (ox 3, arI E 7 fo)]
  refine G.iload_n hX 1 rfl dX3_sheet_0 ?_
  refine G.s0i hX (As := [.int (nI sh)]) (st := []) (c_X3_isSheetn _ E (x := sh) (h1 := by omega)) gX3_sheet_X3_isSheet cp_X3_isSheet (by decide) rfl rfl (Nat.le_of_ble_eq_true rfl) dX3_sheet_1 ?_
  refine G.if_eq hX (tgt := 14) (by decide) dX3_sheet_4 (fun c4 => absurd c4 (by decide)) (fun _ => ?_)
  refine G.iload_n hX 2 rfl dX3_sheet_7 ?_
  refine G.s0i hX (As := [.int b]) (st := []) (c_X3_isWidth _ E (b := b) ) gX3_sheet_X3_isWidth cp_X3_isWidth (by decide) rfl rfl (Nat.le_of_ble_eq_true rfl) dX3_sheet_8 ?_
  refine G.b_ne hX (tgt := 20) (by decide) dX3_sheet_11 (fun c11 => ?_) (fun c11 => ?_)
  · refine G.iload_n hX 3 rfl dX3_sheet_20 ?_
    refine G.if_ge hX (tgt := 31) (by decide) dX3_sheet_21 (fun c21 => ?_) (fun c21 => ?_)
    · refine G.iload_n hX 3 rfl dX3_sheet_31 ?_
      refine G.bipush hX (v := 40) (by decide) dX3_sheet_32 ?_
      refine G.icmp_le hX (tgt := 43) (by decide) dX3_sheet_34 (fun c34 => ?_) (fun c34 => ?_)
      · exact absurd c34 h4
      · refine G.aload_n hX 0 rfl dX3_sheet_37 ?_
        refine G.iconst hX (v := 0) (by decide) dX3_sheet_38 ?_
        refine G.vi hX (As := [.int 0]) (st := []) (wr := []) (wf := [(ox 0, noO ox rr rk rt rb xt kp), (ox 3, arI E 7 (upd fo 0 (fo 0 + 1)))]) (q0 := 0) (ci := 3) rfl rfl (c_X3_finding0 _ E (ox := ox) (rr := rr) (rk := rk) (rt := rt) (rb := rb) (xt := xt) (kp := kp) (fo := fo) ) gX3_sheet_X3_finding cp_X3_finding (by decide) [0, 1] [] [0, 1] ⟨rfl, rfl, by decide, rfl⟩ rfl rfl (Nat.le_of_ble_eq_true rfl) dX3_sheet_39 ?_
        exact G.iret hX hQ dX3_sheet_42 (by rfl) (by rfl)
    · exact absurd h3 c21
  · exact absurd h2 (by simp [c11])
set_option maxHeartbeats 4000000 in
set_option maxRecDepth 100000 in
theorem c_X3_sheetok (l : Launch) (E : EV) (sh : Nat) (z : Nat) (b : Int32) (hs : Nat → Nat → Nat) (ox : Nat → Nat) (rr : Nat → Nat) (rk : Nat → Nat) (rt : Nat → Nat) (rb : Nat → Nat) (xt : Nat → Nat) (kp : Int32) (bt : Int32) (sz : Int32) (nu : Nat → Int64) (h1 : sh < 4) (h2 : okB b = true) (h3 : z ≤ 40) : CI l yX3_sheet wsX3_sheet rmX3_sheet E [.ref (ox 0), .int (nI sh), .int b, .int (nI z)] [(ox 0, noO ox rr rk rt rb xt kp), (ox 2, arO E 4 (shF hs)), ((hs sh) 0, shO (hs sh) bt sz), ((hs sh) 1, arJ E 40 nu)] [(ox 0, noO ox rr rk rt rb xt kp), (ox 2, arO E 4 (shF hs)), ((hs sh) 0, shO (hs sh) b (if b = 0 then 0 else nI z)), ((hs sh) 1, arJ E 40 (fun _ => 0))] (if b = 0 then 0 else nI z) := by
  refine CI.of (own := RX3) (cc := cX3_sheet) (nL := 4) (rt := (some .int)) (by decide) rfl rfl (Nat.le_of_ble_eq_true rfl) (fun X hX hQ => ?_)
  show G E X 4 0 [(0, .ref (ox 0)), (1, .int (nI sh)), (2, .int b), (3, .int (nI z))] [] [(ox 0, noO ox rr rk rt rb xt kp), (ox 2, arO E 4 (shF hs)), ((hs sh) 0, shO (hs sh) bt sz), ((hs sh) 1, arJ E 40 nu)]
  refine G.iload_n hX 1 rfl dX3_sheet_0 ?_
  refine G.s0i hX (As := [.int (nI sh)]) (st := []) (c_X3_isSheetn _ E (x := sh) (h1 := by omega)) gX3_sheet_X3_isSheet cp_X3_isSheet (by decide) rfl rfl (Nat.le_of_ble_eq_true rfl) dX3_sheet_1 ?_
  refine G.if_eq hX (tgt := 14) (by decide) dX3_sheet_4 (fun c4 => absurd c4 (by decide)) (fun _ => ?_)
  refine G.iload_n hX 2 rfl dX3_sheet_7 ?_
  refine G.s0i hX (As := [.int b]) (st := []) (c_X3_isWidth _ E (b := b) ) gX3_sheet_X3_isWidth cp_X3_isWidth (by decide) rfl rfl (Nat.le_of_ble_eq_true rfl) dX3_sheet_8 ?_
  refine G.b_ne hX (tgt := 20) (by decide) dX3_sheet_11 (fun c11 => ?_) (fun c11 => ?_)
  · refine G.iload_n hX 3 rfl dX3_sheet_20 ?_
    refine G.if_ge hX (tgt := 31) (by decide) dX3_sheet_21 (fun _ => ?_) (fun c21 => absurd (nI_pos' (by omega)) c21)
    refine G.iload_n hX 3 rfl dX3_sheet_31 ?_
    refine G.bipush hX (v := 40) (by decide) dX3_sheet_32 ?_
    refine G.n_le hX (a := z) (b := 40) (tgt := 43) (by omega) (by omega) (by decide) dX3_sheet_34 (fun c34 => ?_) (fun c34 => ?_)
    · refine G.aload_n hX 0 rfl dX3_sheet_43 ?_
      refine G.get hX inc_X3_sheet_3 0 rfl rfl 6 (by decide) (by decide +kernel) rfl dX3_sheet_44 ?_
      refine G.iload_n hX 1 rfl dX3_sheet_47 ?_
      refine G.aald hX (j := sh) (v := .ref ((hs sh) 0)) 1 rfl (by omega) (by omega) (shF_at (by omega)) dX3_sheet_48 ?_
      refine G.iload_n hX 2 rfl dX3_sheet_49 ?_
      refine G.iload_n hX 3 rfl dX3_sheet_50 ?_
      refine G.vv hX (As := [.int b, .int (nI z)]) (st := []) (wr := [(ox 0, noO ox rr rk rt rb xt kp), (ox 2, arO E 4 (shF hs))]) (wf := [(ox 0, noO ox rr rk rt rb xt kp), (ox 2, arO E 4 (shF hs)), ((hs sh) 0, shO (hs sh) b (if b = 0 then 0 else nI z)), ((hs sh) 1, arJ E 40 (fun _ => 0))]) (q0 := 0) (ci := 1) rfl rfl (c_X1_layNew _ E (b := b) (z := z) (a := hs sh) (bt := bt) (sz := sz) (nu := nu) ) gX3_sheet_X1_layNew cp_X1_layNew (by decide) [2, 3] [0, 1] [0, 1, 2, 3] ⟨rfl, rfl, by decide, rfl⟩ rfl rfl (Nat.le_of_ble_eq_true rfl) dX3_sheet_51 ?_
      refine G.aload_n hX 0 rfl dX3_sheet_54 ?_
      refine G.get hX inc_X3_sheet_3 0 rfl rfl 6 (by decide) (by decide +kernel) rfl dX3_sheet_55 ?_
      refine G.iload_n hX 1 rfl dX3_sheet_58 ?_
      refine G.aald hX (j := sh) (v := .ref ((hs sh) 0)) 1 rfl (by omega) (by omega) (shF_at (by omega)) dX3_sheet_59 ?_
      refine G.get hX inc_X3_sheet_1 2 rfl rfl 1 (by decide) (by decide +kernel) rfl dX3_sheet_60 ?_
      exact G.iret hX hQ dX3_sheet_63 (by rfl) (by rfl)
    · exact absurd h3 (by omega)
  · exact absurd h2 (by simp [c11])
abbrev rmX3_write : Room := { frames := 1, cells := 0, slots := 0, locals := 23 }
theorem cp_X3_write : CP yX3_write RX3 wsX3_write 7 3 rmX3_write := ⟨⟨_, _, _, rfl⟩, rfl, rfl, by decide +kernel⟩
theorem inc_X3_write_3 : ∀ w ∈ u_ws RX3 TX3 9, w ∈ wsX3_write := by decide +kernel
theorem inc_X3_write_1 : ∀ w ∈ u_ws RX1 TX1 3, w ∈ wsX3_write := by decide +kernel
set_option maxHeartbeats 4000000 in
set_option maxRecDepth 100000 in
theorem c_X3_writebad (l : Launch) (E : EV) (x : Int32) (i : Int32) (v : Int64) (ox : Nat → Nat) (rr : Nat → Nat) (rk : Nat → Nat) (rt : Nat → Nat) (rb : Nat → Nat) (xt : Nat → Nat) (kp : Int32) (fo : Nat → Int32) (h1 : cIn 4 x = false) : CL l yX3_write wsX3_write rmX3_write E [.ref (ox 0), .int x, .int i, .long v] [(ox 0, noO ox rr rk rt rb xt kp), (ox 3, arI E 7 fo)] [(ox 0, noO ox rr rk rt rb xt kp), (ox 3, arI E 7 (upd fo 0 (fo 0 + 1)))] ((-1000000001)) := by
  refine CL.of (own := RX3) (cc := cX3_write) (nL := 7) (rt := (some .long)) (by decide) rfl rfl (Nat.le_of_ble_eq_true rfl) (fun X hX hQ => ?_)
  show G E X 7 0 [(0, .ref (ox 0)), (1, .int x), (2, .int i), (3, .long v)] [] [(ox 0, noO ox rr rk rt rb xt kp), (ox 3, arI E 7 fo)]
  refine G.iload_n hX 1 rfl dX3_write_0 ?_
  refine G.s0i hX (As := [.int x]) (st := []) (c_X3_isSheet _ E (x := x) ) gX3_write_X3_isSheet cp_X3_isSheet (by decide) rfl rfl (Nat.le_of_ble_eq_true rfl) dX3_write_1 ?_
  refine G.b_ne hX (tgt := 14) (by decide) dX3_write_4 (fun c4 => ?_) (fun c4 => ?_)
  · exact absurd h1 (by simp [c4])
  · refine G.aload_n hX 0 rfl dX3_write_7 ?_
    refine G.iconst hX (v := 0) (by decide) dX3_write_8 ?_
    refine G.vi hX (As := [.int 0]) (st := []) (wr := []) (wf := [(ox 0, noO ox rr rk rt rb xt kp), (ox 3, arI E 7 (upd fo 0 (fo 0 + 1)))]) (q0 := 0) (ci := 3) rfl rfl (c_X3_finding0 _ E (ox := ox) (rr := rr) (rk := rk) (rt := rt) (rb := rb) (xt := xt) (kp := kp) (fo := fo) ) gX3_write_X3_finding cp_X3_finding (by decide) [0, 1] [] [0, 1] ⟨rfl, rfl, by decide, rfl⟩ rfl rfl (Nat.le_of_ble_eq_true rfl) dX3_write_9 ?_
    refine G.i2l hX dX3_write_12 ?_
    refine G.le (y := -1000000001) (by decide) ?_
    exact G.lret hX hQ dX3_write_13 (by rfl) (by rfl)
set_option maxHeartbeats 4000000 in
set_option maxRecDepth 100000 in
theorem c_X3_writemis (l : Launch) (E : EV) (sh : Nat) (i : Int32) (v : Int64) (hs : Nat → Nat → Nat) (ox : Nat → Nat) (rr : Nat → Nat) (rk : Nat → Nat) (rt : Nat → Nat) (rb : Nat → Nat) (xt : Nat → Nat) (kp : Int32) (bt : Int32) (sz : Int32) (nu : Nat → Int64) (fo : Nat → Int32) (h1 : sh < 4) (h2 : bt = 0) : CL l yX3_write wsX3_write rmX3_write E [.ref (ox 0), .int (nI sh), .int i, .long v] [(ox 0, noO ox rr rk rt rb xt kp), (ox 2, arO E 4 (shF hs)), ((hs sh) 0, shO (hs sh) bt sz), ((hs sh) 1, arJ E 40 nu), (ox 3, arI E 7 fo)] [(ox 0, noO ox rr rk rt rb xt kp), (ox 2, arO E 4 (shF hs)), ((hs sh) 0, shO (hs sh) bt sz), ((hs sh) 1, arJ E 40 nu), (ox 3, arI E 7 (upd fo 5 (fo 5 + 1)))] ((-1000000006)) := by
  refine CL.of (own := RX3) (cc := cX3_write) (nL := 7) (rt := (some .long)) (by decide) rfl rfl (Nat.le_of_ble_eq_true rfl) (fun X hX hQ => ?_)
  show G E X 7 0 [(0, .ref (ox 0)), (1, .int (nI sh)), (2, .int i), (3, .long v)] [] [(ox 0, noO ox rr rk rt rb xt kp), (ox 2, arO E 4 (shF hs)), ((hs sh) 0, shO (hs sh) bt sz), ((hs sh) 1, arJ E 40 nu), (ox 3, arI E 7 fo)]
  refine G.iload_n hX 1 rfl dX3_write_0 ?_
  refine G.s0i hX (As := [.int (nI sh)]) (st := []) (c_X3_isSheetn _ E (x := sh) (h1 := by omega)) gX3_write_X3_isSheet cp_X3_isSheet (by decide) rfl rfl (Nat.le_of_ble_eq_true rfl) dX3_write_1 ?_
  refine G.if_ne hX (tgt := 14) (by decide) dX3_write_4 (fun _ => ?_) (fun c4 => absurd c4 (by decide))
  refine G.aload_n hX 0 rfl dX3_write_14 ?_
  refine G.get hX inc_X3_write_3 0 rfl rfl 6 (by decide) (by decide +kernel) rfl dX3_write_15 ?_
  refine G.iload_n hX 1 rfl dX3_write_18 ?_
  refine G.aald hX (j := sh) (v := .ref ((hs sh) 0)) 1 rfl (by omega) (by omega) (shF_at (by omega)) dX3_write_19 ?_
  refine G.vi hX (As := []) (st := []) (wr := [(ox 0, noO ox rr rk rt rb xt kp), (ox 2, arO E 4 (shF hs)), ((hs sh) 1, arJ E 40 nu), (ox 3, arI E 7 fo)]) (wf := [(ox 0, noO ox rr rk rt rb xt kp), (ox 2, arO E 4 (shF hs)), ((hs sh) 0, shO (hs sh) bt sz), ((hs sh) 1, arJ E 40 nu), (ox 3, arI E 7 fo)]) (q0 := 0) (ci := 1) rfl rfl (c_X1_isMissing _ E (a := hs sh) (bt := bt) (sz := sz) ) gX3_write_X1_isMissing cp_X1_isMissing (by decide) [2] [0, 1, 3, 4] [0, 1, 4, 2, 3] ⟨rfl, rfl, by decide, rfl⟩ rfl rfl (Nat.le_of_ble_eq_true rfl) dX3_write_20 ?_
  refine G.b_eq hX (tgt := 33) (by decide) dX3_write_23 (fun c23 => ?_) (fun c23 => ?_)
  · exact absurd h2 (of_decide_eq_false c23)
  · refine G.aload_n hX 0 rfl dX3_write_26 ?_
    refine G.iconst hX (v := 5) (by decide) dX3_write_27 ?_
    refine G.vi hX (As := [.int 5]) (st := []) (wr := [(ox 2, arO E 4 (shF hs)), ((hs sh) 0, shO (hs sh) bt sz), ((hs sh) 1, arJ E 40 nu)]) (wf := [(ox 0, noO ox rr rk rt rb xt kp), (ox 2, arO E 4 (shF hs)), ((hs sh) 0, shO (hs sh) bt sz), ((hs sh) 1, arJ E 40 nu), (ox 3, arI E 7 (upd fo 5 (fo 5 + 1)))]) (q0 := 0) (ci := 3) rfl rfl (c_X3_finding5 _ E (ox := ox) (rr := rr) (rk := rk) (rt := rt) (rb := rb) (xt := xt) (kp := kp) (fo := fo) ) gX3_write_X3_finding cp_X3_finding (by decide) [0, 4] [1, 2, 3] [3, 0, 1, 2, 4] ⟨rfl, rfl, by decide, rfl⟩ rfl rfl (Nat.le_of_ble_eq_true rfl) dX3_write_28 ?_
    refine G.i2l hX dX3_write_31 ?_
    refine G.le (y := -1000000006) (by decide) ?_
    exact G.lret hX hQ dX3_write_32 (by rfl) (by rfl)
set_option maxHeartbeats 4000000 in
set_option maxRecDepth 100000 in
theorem c_X3_writebey (l : Launch) (E : EV) (sh : Nat) (i : Int32) (v : Int64) (hs : Nat → Nat → Nat) (ox : Nat → Nat) (rr : Nat → Nat) (rk : Nat → Nat) (rt : Nat → Nat) (rb : Nat → Nat) (xt : Nat → Nat) (kp : Int32) (bt : Int32) (sz : Int32) (nu : Nat → Int64) (fo : Nat → Int32) (h1 : sh < 4) (h2 : ¬ bt = 0) (h3 : (!(decide (i < 0)) && decide (i < sz)) = false) : CL l yX3_write wsX3_write rmX3_write E [.ref (ox 0), .int (nI sh), .int i, .long v] [(ox 0, noO ox rr rk rt rb xt kp), (ox 2, arO E 4 (shF hs)), ((hs sh) 0, shO (hs sh) bt sz), ((hs sh) 1, arJ E 40 nu), (ox 3, arI E 7 fo)] [(ox 0, noO ox rr rk rt rb xt kp), (ox 2, arO E 4 (shF hs)), ((hs sh) 0, shO (hs sh) bt sz), ((hs sh) 1, arJ E 40 nu), (ox 3, arI E 7 (upd fo 0 (fo 0 + 1)))] ((-1000000001)) := by
  refine CL.of (own := RX3) (cc := cX3_write) (nL := 7) (rt := (some .long)) (by decide) rfl rfl (Nat.le_of_ble_eq_true rfl) (fun X hX hQ => ?_)
  show G E X 7 0 [(0, .ref (ox 0)), (1, .int (nI sh)), (2, .int i), (3, .long v)] [] [(ox 0, noO ox rr rk rt rb xt kp), (ox 2, arO E 4 (shF hs)), ((hs sh) 0, shO (hs sh) bt sz), ((hs sh) 1, arJ E 40 nu), (ox 3, arI E 7 fo)]
  refine G.iload_n hX 1 rfl dX3_write_0 ?_
  refine G.s0i hX (As := [.int (nI sh)]) (st := []) (c_X3_isSheetn _ E (x := sh) (h1 := by omega)) gX3_write_X3_isSheet cp_X3_isSheet (by decide) rfl rfl (Nat.le_of_ble_eq_true rfl) dX3_write_1 ?_
  refine G.if_ne hX (tgt := 14) (by decide) dX3_write_4 (fun _ => ?_) (fun c4 => absurd c4 (by decide))
  refine G.aload_n hX 0 rfl dX3_write_14 ?_
  refine G.get hX inc_X3_write_3 0 rfl rfl 6 (by decide) (by decide +kernel) rfl dX3_write_15 ?_
  refine G.iload_n hX 1 rfl dX3_write_18 ?_
  refine G.aald hX (j := sh) (v := .ref ((hs sh) 0)) 1 rfl (by omega) (by omega) (shF_at (by omega)) dX3_write_19 ?_
  refine G.vi hX (As := []) (st := []) (wr := [(ox 0, noO ox rr rk rt rb xt kp), (ox 2, arO E 4 (shF hs)), ((hs sh) 1, arJ E 40 nu), (ox 3, arI E 7 fo)]) (wf := [(ox 0, noO ox rr rk rt rb xt kp), (ox 2, arO E 4 (shF hs)), ((hs sh) 0, shO (hs sh) bt sz), ((hs sh) 1, arJ E 40 nu), (ox 3, arI E 7 fo)]) (q0 := 0) (ci := 1) rfl rfl (c_X1_isMissing _ E (a := hs sh) (bt := bt) (sz := sz) ) gX3_write_X1_isMissing cp_X1_isMissing (by decide) [2] [0, 1, 3, 4] [0, 1, 4, 2, 3] ⟨rfl, rfl, by decide, rfl⟩ rfl rfl (Nat.le_of_ble_eq_true rfl) dX3_write_20 ?_
  refine G.b_eq hX (tgt := 33) (by decide) dX3_write_23 (fun c23 => ?_) (fun c23 => ?_)
  · refine G.iload_n hX 2 rfl dX3_write_33 ?_
    refine G.if_lt hX (tgt := 50) (by decide) dX3_write_34 (fun c34 => ?_) (fun c34 => ?_)
    · refine G.aload_n hX 0 rfl dX3_write_50 ?_
      refine G.iconst hX (v := 0) (by decide) dX3_write_51 ?_
      refine G.vi hX (As := [.int 0]) (st := []) (wr := [(ox 2, arO E 4 (shF hs)), ((hs sh) 0, shO (hs sh) bt sz), ((hs sh) 1, arJ E 40 nu)]) (wf := [(ox 0, noO ox rr rk rt rb xt kp), (ox 2, arO E 4 (shF hs)), ((hs sh) 0, shO (hs sh) bt sz), ((hs sh) 1, arJ E 40 nu), (ox 3, arI E 7 (upd fo 0 (fo 0 + 1)))]) (q0 := 0) (ci := 3) rfl rfl (c_X3_finding0 _ E (ox := ox) (rr := rr) (rk := rk) (rt := rt) (rb := rb) (xt := xt) (kp := kp) (fo := fo) ) gX3_write_X3_finding cp_X3_finding (by decide) [0, 4] [1, 2, 3] [3, 0, 1, 2, 4] ⟨rfl, rfl, by decide, rfl⟩ rfl rfl (Nat.le_of_ble_eq_true rfl) dX3_write_52 ?_
      refine G.i2l hX dX3_write_55 ?_
      refine G.le (y := -1000000001) (by decide) ?_
      exact G.lret hX hQ dX3_write_56 (by rfl) (by rfl)
    · refine G.iload_n hX 2 rfl dX3_write_37 ?_
      refine G.aload_n hX 0 rfl dX3_write_38 ?_
      refine G.get hX inc_X3_write_3 0 rfl rfl 6 (by decide) (by decide +kernel) rfl dX3_write_39 ?_
      refine G.iload_n hX 1 rfl dX3_write_42 ?_
      refine G.aald hX (j := sh) (v := .ref ((hs sh) 0)) 1 rfl (by omega) (by omega) (shF_at (by omega)) dX3_write_43 ?_
      refine G.get hX inc_X3_write_1 2 rfl rfl 1 (by decide) (by decide +kernel) rfl dX3_write_44 ?_
      refine G.icmp_lt hX (tgt := 57) (by decide) dX3_write_47 (fun c47 => ?_) (fun c47 => ?_)
      · exact absurd h3 (by simp [c23, c34, c47])
      · refine G.aload_n hX 0 rfl dX3_write_50 ?_
        refine G.iconst hX (v := 0) (by decide) dX3_write_51 ?_
        refine G.vi hX (As := [.int 0]) (st := []) (wr := [(ox 2, arO E 4 (shF hs)), ((hs sh) 0, shO (hs sh) bt sz), ((hs sh) 1, arJ E 40 nu)]) (wf := [(ox 0, noO ox rr rk rt rb xt kp), (ox 2, arO E 4 (shF hs)), ((hs sh) 0, shO (hs sh) bt sz), ((hs sh) 1, arJ E 40 nu), (ox 3, arI E 7 (upd fo 0 (fo 0 + 1)))]) (q0 := 0) (ci := 3) rfl rfl (c_X3_finding0 _ E (ox := ox) (rr := rr) (rk := rk) (rt := rt) (rb := rb) (xt := xt) (kp := kp) (fo := fo) ) gX3_write_X3_finding cp_X3_finding (by decide) [0, 4] [1, 2, 3] [3, 0, 1, 2, 4] ⟨rfl, rfl, by decide, rfl⟩ rfl rfl (Nat.le_of_ble_eq_true rfl) dX3_write_52 ?_
        refine G.i2l hX dX3_write_55 ?_
        refine G.le (y := -1000000001) (by decide) ?_
        exact G.lret hX hQ dX3_write_56 (by rfl) (by rfl)
  · exact absurd (of_decide_eq_true c23) h2
set_option maxHeartbeats 4000000 in
set_option maxRecDepth 100000 in
theorem c_X3_writeok (l : Launch) (E : EV) (sh : Nat) (i : Nat) (z : Nat) (v : Int64) (hs : Nat → Nat → Nat) (ox : Nat → Nat) (rr : Nat → Nat) (rk : Nat → Nat) (rt : Nat → Nat) (rb : Nat → Nat) (xt : Nat → Nat) (kp : Int32) (bt : Int32) (nu : Nat → Int64) (h1 : sh < 4) (h2 : ¬ bt = 0) (h3 : i < z) (h4 : z ≤ 40) : CL l yX3_write wsX3_write rmX3_write E [.ref (ox 0), .int (nI sh), .int (nI i), .long v] [(ox 0, noO ox rr rk rt rb xt kp), (ox 2, arO E 4 (shF hs)), ((hs sh) 0, shO (hs sh) bt (nI z)), ((hs sh) 1, arJ E 40 nu)] [(ox 0, noO ox rr rk rt rb xt kp), (ox 2, arO E 4 (shF hs)), ((hs sh) 0, shO (hs sh) bt (nI z)), ((hs sh) 1, arJ E 40 (vp_updL nu i (nrw bt v)))] (nu i) := by
  refine CL.of (own := RX3) (cc := cX3_write) (nL := 7) (rt := (some .long)) (by decide) rfl rfl (Nat.le_of_ble_eq_true rfl) (fun X hX hQ => ?_)
  show G E X 7 0 [(0, .ref (ox 0)), (1, .int (nI sh)), (2, .int (nI i)), (3, .long v)] [] [(ox 0, noO ox rr rk rt rb xt kp), (ox 2, arO E 4 (shF hs)), ((hs sh) 0, shO (hs sh) bt (nI z)), ((hs sh) 1, arJ E 40 nu)]
  refine G.iload_n hX 1 rfl dX3_write_0 ?_
  refine G.s0i hX (As := [.int (nI sh)]) (st := []) (c_X3_isSheetn _ E (x := sh) (h1 := by omega)) gX3_write_X3_isSheet cp_X3_isSheet (by decide) rfl rfl (Nat.le_of_ble_eq_true rfl) dX3_write_1 ?_
  refine G.if_ne hX (tgt := 14) (by decide) dX3_write_4 (fun _ => ?_) (fun c4 => absurd c4 (by decide))
  refine G.aload_n hX 0 rfl dX3_write_14 ?_
  refine G.get hX inc_X3_write_3 0 rfl rfl 6 (by decide) (by decide +kernel) rfl dX3_write_15 ?_
  refine G.iload_n hX 1 rfl dX3_write_18 ?_
  refine G.aald hX (j := sh) (v := .ref ((hs sh) 0)) 1 rfl (by omega) (by omega) (shF_at (by omega)) dX3_write_19 ?_
  refine G.vi hX (As := []) (st := []) (wr := [(ox 0, noO ox rr rk rt rb xt kp), (ox 2, arO E 4 (shF hs)), ((hs sh) 1, arJ E 40 nu)]) (wf := [(ox 0, noO ox rr rk rt rb xt kp), (ox 2, arO E 4 (shF hs)), ((hs sh) 0, shO (hs sh) bt (nI z)), ((hs sh) 1, arJ E 40 nu)]) (q0 := 0) (ci := 1) rfl rfl (c_X1_isMissing _ E (a := hs sh) (bt := bt) (sz := nI z) ) gX3_write_X1_isMissing cp_X1_isMissing (by decide) [2] [0, 1, 3] [0, 1, 3, 2] ⟨rfl, rfl, by decide, rfl⟩ rfl rfl (Nat.le_of_ble_eq_true rfl) dX3_write_20 ?_
  refine G.b_eq hX (tgt := 33) (by decide) dX3_write_23 (fun c23 => ?_) (fun c23 => ?_)
  · refine G.iload_n hX 2 rfl dX3_write_33 ?_
    refine G.if_lt hX (tgt := 50) (by decide) dX3_write_34 (fun c34 => absurd c34 (nI_pos (by omega))) (fun _ => ?_)
    refine G.iload_n hX 2 rfl dX3_write_37 ?_
    refine G.aload_n hX 0 rfl dX3_write_38 ?_
    refine G.get hX inc_X3_write_3 0 rfl rfl 6 (by decide) (by decide +kernel) rfl dX3_write_39 ?_
    refine G.iload_n hX 1 rfl dX3_write_42 ?_
    refine G.aald hX (j := sh) (v := .ref ((hs sh) 0)) 1 rfl (by omega) (by omega) (shF_at (by omega)) dX3_write_43 ?_
    refine G.get hX inc_X3_write_1 2 rfl rfl 1 (by decide) (by decide +kernel) rfl dX3_write_44 ?_
    refine G.n_lt hX (a := i) (b := z) (tgt := 57) (by omega) (by omega) (by decide) dX3_write_47 (fun c47 => ?_) (fun c47 => ?_)
    · refine G.aload_n hX 0 rfl dX3_write_57 ?_
      refine G.get hX inc_X3_write_3 0 rfl rfl 6 (by decide) (by decide +kernel) rfl dX3_write_58 ?_
      refine G.iload_n hX 1 rfl dX3_write_61 ?_
      refine G.aald hX (j := sh) (v := .ref ((hs sh) 0)) 1 rfl (by omega) (by omega) (shF_at (by omega)) dX3_write_62 ?_
      refine G.get hX inc_X3_write_1 2 rfl rfl 2 (by decide) (by decide +kernel) rfl dX3_write_63 ?_
      refine G.iload_n hX 2 rfl dX3_write_66 ?_
      refine G.lald hX (j := i) 3 rfl (by omega) (by omega) dX3_write_67 ?_
      refine G.lstore hX (lv' := [(5, .long (nu i)), (0, .ref (ox 0)), (1, .int (nI sh)), (2, .int (nI i)), (3, .long v)]) (by decide) rfl dX3_write_68 ?_
      refine G.aload_n hX 1 rfl dX3_write_70 ?_
      refine G.get hX inc_X3_write_3 0 rfl rfl 6 (by decide) (by decide +kernel) rfl dX3_write_71 ?_
      refine G.iload_n hX 2 rfl dX3_write_74 ?_
      refine G.aald hX (j := sh) (v := .ref ((hs sh) 0)) 1 rfl (by omega) (by omega) (shF_at (by omega)) dX3_write_75 ?_
      refine G.iload_n hX 3 rfl dX3_write_76 ?_
      refine G.lload_n hX 4 rfl dX3_write_77 ?_
      refine G.vv hX (As := [.int (nI i), .long v]) (st := []) (wr := [(ox 0, noO ox rr rk rt rb xt kp), (ox 2, arO E 4 (shF hs))]) (wf := [(ox 0, noO ox rr rk rt rb xt kp), (ox 2, arO E 4 (shF hs)), ((hs sh) 0, shO (hs sh) bt (nI z)), ((hs sh) 1, arJ E 40 (vp_updL nu i (nrw bt v)))]) (q0 := 0) (ci := 1) rfl rfl (c_X1_put _ E (i := i) (v := v) (a := hs sh) (bt := bt) (sz := nI z) (nu := nu) (h1 := by omega)) gX3_write_X1_put cp_X1_put (by decide) [2, 3] [0, 1] [0, 1, 2, 3] ⟨rfl, rfl, by decide, rfl⟩ rfl rfl (Nat.le_of_ble_eq_true rfl) dX3_write_78 ?_
      refine G.lload hX 0 rfl dX3_write_81 ?_
      exact G.lret hX hQ dX3_write_83 (by rfl) (by rfl)
    · exact absurd h3 (by omega)
  · exact absurd (of_decide_eq_true c23) h2
abbrev rmX3_copy : Room := { frames := 1, cells := 0, slots := 0, locals := 80 }
theorem cp_X3_copy : CP yX3_copy RX3 wsX3_copy 8 5 rmX3_copy := ⟨⟨_, _, _, rfl⟩, rfl, rfl, by decide +kernel⟩
theorem inc_X3_copy_3 : ∀ w ∈ u_ws RX3 TX3 9, w ∈ wsX3_copy := by decide +kernel
theorem inc_X3_copy_1 : ∀ w ∈ u_ws RX1 TX1 3, w ∈ wsX3_copy := by decide +kernel
set_option maxHeartbeats 4000000 in
set_option maxRecDepth 100000 in
theorem c_X3_copybad (l : Launch) (E : EV) (x : Int32) (f : Int32) (y : Int32) (g : Int32) (k : Int32) (ox : Nat → Nat) (rr : Nat → Nat) (rk : Nat → Nat) (rt : Nat → Nat) (rb : Nat → Nat) (xt : Nat → Nat) (kp : Int32) (fo : Nat → Int32) (h1 : (cIn 4 x && cIn 4 y) = false) : CI l yX3_copy wsX3_copy rmX3_copy E [.ref (ox 0), .int x, .int f, .int y, .int g, .int k] [(ox 0, noO ox rr rk rt rb xt kp), (ox 3, arI E 7 fo)] [(ox 0, noO ox rr rk rt rb xt kp), (ox 3, arI E 7 (upd fo 0 (fo 0 + 1)))] ((-1000000001)) := by
  refine CI.of (own := RX3) (cc := cX3_copy) (nL := 8) (rt := (some .int)) (by decide) rfl rfl (Nat.le_of_ble_eq_true rfl) (fun X hX hQ => ?_)
  show G E X 8 0 [(0, .ref (ox 0)), (1, .int x), (2, .int f), (3, .int y), (4, .int g), (5, .int k)] [] [(ox 0, noO ox rr rk rt rb xt kp), (ox 3, arI E 7 fo)]
  refine G.iload_n hX 1 rfl dX3_copy_0 ?_
  refine G.s0i hX (As := [.int x]) (st := []) (c_X3_isSheet _ E (x := x) ) gX3_copy_X3_isSheet cp_X3_isSheet (by decide) rfl rfl (Nat.le_of_ble_eq_true rfl) dX3_copy_1 ?_
  refine G.b_eq hX (tgt := 14) (by decide) dX3_copy_4 (fun c4 => ?_) (fun c4 => ?_)
  · refine G.aload_n hX 0 rfl dX3_copy_14 ?_
    refine G.iconst hX (v := 0) (by decide) dX3_copy_15 ?_
    refine G.vi hX (As := [.int 0]) (st := []) (wr := []) (wf := [(ox 0, noO ox rr rk rt rb xt kp), (ox 3, arI E 7 (upd fo 0 (fo 0 + 1)))]) (q0 := 0) (ci := 3) rfl rfl (c_X3_finding0 _ E (ox := ox) (rr := rr) (rk := rk) (rt := rt) (rb := rb) (xt := xt) (kp := kp) (fo := fo) ) gX3_copy_X3_finding cp_X3_finding (by decide) [0, 1] [] [0, 1] ⟨rfl, rfl, by decide, rfl⟩ rfl rfl (Nat.le_of_ble_eq_true rfl) dX3_copy_16 ?_
    exact G.iret hX hQ dX3_copy_19 (by rfl) (by rfl)
  · refine G.iload_n hX 3 rfl dX3_copy_7 ?_
    refine G.s0i hX (As := [.int y]) (st := []) (c_X3_isSheet _ E (x := y) ) gX3_copy_X3_isSheet cp_X3_isSheet (by decide) rfl rfl (Nat.le_of_ble_eq_true rfl) dX3_copy_8 ?_
    refine G.b_ne hX (tgt := 20) (by decide) dX3_copy_11 (fun c11 => ?_) (fun c11 => ?_)
    · exact absurd h1 (by simp [c4, c11])
    · refine G.aload_n hX 0 rfl dX3_copy_14 ?_
      refine G.iconst hX (v := 0) (by decide) dX3_copy_15 ?_
      refine G.vi hX (As := [.int 0]) (st := []) (wr := []) (wf := [(ox 0, noO ox rr rk rt rb xt kp), (ox 3, arI E 7 (upd fo 0 (fo 0 + 1)))]) (q0 := 0) (ci := 3) rfl rfl (c_X3_finding0 _ E (ox := ox) (rr := rr) (rk := rk) (rt := rt) (rb := rb) (xt := xt) (kp := kp) (fo := fo) ) gX3_copy_X3_finding cp_X3_finding (by decide) [0, 1] [] [0, 1] ⟨rfl, rfl, by decide, rfl⟩ rfl rfl (Nat.le_of_ble_eq_true rfl) dX3_copy_16 ?_
      exact G.iret hX hQ dX3_copy_19 (by rfl) (by rfl)
set_option maxHeartbeats 4000000 in
set_option maxRecDepth 100000 in
theorem c_X3_copymis2 (l : Launch) (E : EV) (ia : Nat) (ib : Nat) (f : Int32) (g : Int32) (k : Int32) (hs : Nat → Nat → Nat) (ox : Nat → Nat) (rr : Nat → Nat) (rk : Nat → Nat) (rt : Nat → Nat) (rb : Nat → Nat) (xt : Nat → Nat) (kp : Int32) (bt : Int32) (sz : Int32) (bt2 : Int32) (sz2 : Int32) (nu : Nat → Int64) (nu2 : Nat → Int64) (fo : Nat → Int32) (h1 : ia < 4) (h2 : ib < 4) (h3 : bt = 0 ∨ bt2 = 0) : CI l yX3_copy wsX3_copy rmX3_copy E [.ref (ox 0), .int (nI ia), .int f, .int (nI ib), .int g, .int k] [(ox 0, noO ox rr rk rt rb xt kp), (ox 2, arO E 4 (shF hs)), ((hs ia) 0, shO (hs ia) bt sz), ((hs ia) 1, arJ E 40 nu), ((hs ib) 0, shO (hs ib) bt2 sz2), ((hs ib) 1, arJ E 40 nu2), (ox 3, arI E 7 fo)] [(ox 0, noO ox rr rk rt rb xt kp), (ox 2, arO E 4 (shF hs)), ((hs ia) 0, shO (hs ia) bt sz), ((hs ia) 1, arJ E 40 nu), ((hs ib) 0, shO (hs ib) bt2 sz2), ((hs ib) 1, arJ E 40 nu2), (ox 3, arI E 7 (upd fo 5 (fo 5 + 1)))] ((-1000000006)) := by
  refine CI.of (own := RX3) (cc := cX3_copy) (nL := 8) (rt := (some .int)) (by decide) rfl rfl (Nat.le_of_ble_eq_true rfl) (fun X hX hQ => ?_)
  show G E X 8 0 [(0, .ref (ox 0)), (1, .int (nI ia)), (2, .int f), (3, .int (nI ib)), (4, .int g), (5, .int k)] [] [(ox 0, noO ox rr rk rt rb xt kp), (ox 2, arO E 4 (shF hs)), ((hs ia) 0, shO (hs ia) bt sz), ((hs ia) 1, arJ E 40 nu), ((hs ib) 0, shO (hs ib) bt2 sz2), ((hs ib) 1, arJ E 40 nu2), (ox 3, arI E 7 fo)]
  refine G.iload_n hX 1 rfl dX3_copy_0 ?_
  refine G.s0i hX (As := [.int (nI ia)]) (st := []) (c_X3_isSheetn _ E (x := ia) (h1 := by omega)) gX3_copy_X3_isSheet cp_X3_isSheet (by decide) rfl rfl (Nat.le_of_ble_eq_true rfl) dX3_copy_1 ?_
  refine G.if_eq hX (tgt := 14) (by decide) dX3_copy_4 (fun c4 => absurd c4 (by decide)) (fun _ => ?_)
  refine G.iload_n hX 3 rfl dX3_copy_7 ?_
  refine G.s0i hX (As := [.int (nI ib)]) (st := []) (c_X3_isSheetn _ E (x := ib) (h1 := by omega)) gX3_copy_X3_isSheet cp_X3_isSheet (by decide) rfl rfl (Nat.le_of_ble_eq_true rfl) dX3_copy_8 ?_
  refine G.if_ne hX (tgt := 20) (by decide) dX3_copy_11 (fun _ => ?_) (fun c11 => absurd c11 (by decide))
  refine G.aload_n hX 0 rfl dX3_copy_20 ?_
  refine G.get hX inc_X3_copy_3 0 rfl rfl 6 (by decide) (by decide +kernel) rfl dX3_copy_21 ?_
  refine G.iload_n hX 1 rfl dX3_copy_24 ?_
  refine G.aald hX (j := ia) (v := .ref ((hs ia) 0)) 1 rfl (by omega) (by omega) (shF_at (by omega)) dX3_copy_25 ?_
  refine G.astore hX (lv' := [(6, .ref ((hs ia) 0)), (0, .ref (ox 0)), (1, .int (nI ia)), (2, .int f), (3, .int (nI ib)), (4, .int g), (5, .int k)]) (by decide) rfl dX3_copy_26 ?_
  refine G.aload_n hX 1 rfl dX3_copy_28 ?_
  refine G.get hX inc_X3_copy_3 0 rfl rfl 6 (by decide) (by decide +kernel) rfl dX3_copy_29 ?_
  refine G.iload_n hX 4 rfl dX3_copy_32 ?_
  refine G.aald hX (j := ib) (v := .ref ((hs ib) 0)) 1 rfl (by omega) (by omega) (shF_at (by omega)) dX3_copy_33 ?_
  refine G.astore hX (lv' := [(7, .ref ((hs ib) 0)), (6, .ref ((hs ia) 0)), (0, .ref (ox 0)), (1, .int (nI ia)), (2, .int f), (3, .int (nI ib)), (4, .int g), (5, .int k)]) (by decide) rfl dX3_copy_34 ?_
  refine G.aload hX 1 rfl dX3_copy_36 ?_
  refine G.vi hX (As := []) (st := []) (wr := [(ox 0, noO ox rr rk rt rb xt kp), (ox 2, arO E 4 (shF hs)), ((hs ia) 1, arJ E 40 nu), ((hs ib) 0, shO (hs ib) bt2 sz2), ((hs ib) 1, arJ E 40 nu2), (ox 3, arI E 7 fo)]) (wf := [(ox 0, noO ox rr rk rt rb xt kp), (ox 2, arO E 4 (shF hs)), ((hs ia) 0, shO (hs ia) bt sz), ((hs ia) 1, arJ E 40 nu), ((hs ib) 0, shO (hs ib) bt2 sz2), ((hs ib) 1, arJ E 40 nu2), (ox 3, arI E 7 fo)]) (q0 := 0) (ci := 1) rfl rfl (c_X1_isMissing _ E (a := hs ia) (bt := bt) (sz := sz) ) gX3_copy_X1_isMissing cp_X1_isMissing (by decide) [2] [0, 1, 3, 4, 5, 6] [0, 1, 6, 2, 3, 4, 5] ⟨rfl, rfl, by decide, rfl⟩ rfl rfl (Nat.le_of_ble_eq_true rfl) dX3_copy_38 ?_
  refine G.b_ne hX (tgt := 52) (by decide) dX3_copy_41 (fun c41 => ?_) (fun c41 => ?_)
  · refine G.aload_n hX 2 rfl dX3_copy_52 ?_
    refine G.iconst hX (v := 5) (by decide) dX3_copy_53 ?_
    refine G.vi hX (As := [.int 5]) (st := []) (wr := [(ox 2, arO E 4 (shF hs)), ((hs ia) 0, shO (hs ia) bt sz), ((hs ia) 1, arJ E 40 nu), ((hs ib) 0, shO (hs ib) bt2 sz2), ((hs ib) 1, arJ E 40 nu2)]) (wf := [(ox 0, noO ox rr rk rt rb xt kp), (ox 2, arO E 4 (shF hs)), ((hs ia) 0, shO (hs ia) bt sz), ((hs ia) 1, arJ E 40 nu), ((hs ib) 0, shO (hs ib) bt2 sz2), ((hs ib) 1, arJ E 40 nu2), (ox 3, arI E 7 (upd fo 5 (fo 5 + 1)))]) (q0 := 0) (ci := 3) rfl rfl (c_X3_finding5 _ E (ox := ox) (rr := rr) (rk := rk) (rt := rt) (rb := rb) (xt := xt) (kp := kp) (fo := fo) ) gX3_copy_X3_finding cp_X3_finding (by decide) [0, 6] [1, 2, 3, 4, 5] [5, 0, 1, 2, 3, 4, 6] ⟨rfl, rfl, by decide, rfl⟩ rfl rfl (Nat.le_of_ble_eq_true rfl) dX3_copy_54 ?_
    exact G.iret hX hQ dX3_copy_57 (by rfl) (by rfl)
  · refine G.aload hX 0 rfl dX3_copy_44 ?_
    refine G.vi hX (As := []) (st := []) (wr := [(ox 0, noO ox rr rk rt rb xt kp), (ox 2, arO E 4 (shF hs)), ((hs ia) 0, shO (hs ia) bt sz), ((hs ia) 1, arJ E 40 nu), ((hs ib) 1, arJ E 40 nu2), (ox 3, arI E 7 fo)]) (wf := [(ox 0, noO ox rr rk rt rb xt kp), (ox 2, arO E 4 (shF hs)), ((hs ia) 0, shO (hs ia) bt sz), ((hs ia) 1, arJ E 40 nu), ((hs ib) 0, shO (hs ib) bt2 sz2), ((hs ib) 1, arJ E 40 nu2), (ox 3, arI E 7 fo)]) (q0 := 0) (ci := 1) rfl rfl (c_X1_isMissing _ E (a := hs ib) (bt := bt2) (sz := sz2) ) gX3_copy_X1_isMissing cp_X1_isMissing (by decide) [4] [0, 1, 2, 3, 5, 6] [0, 1, 2, 3, 6, 4, 5] ⟨rfl, rfl, by decide, rfl⟩ rfl rfl (Nat.le_of_ble_eq_true rfl) dX3_copy_46 ?_
    refine G.b_eq hX (tgt := 58) (by decide) dX3_copy_49 (fun c49 => ?_) (fun c49 => ?_)
    · exact absurd h3 (by have e8 := of_decide_eq_false c41; have e9 := of_decide_eq_false c49; simp [e8, e9])
    · refine G.aload_n hX 2 rfl dX3_copy_52 ?_
      refine G.iconst hX (v := 5) (by decide) dX3_copy_53 ?_
      refine G.vi hX (As := [.int 5]) (st := []) (wr := [(ox 2, arO E 4 (shF hs)), ((hs ia) 0, shO (hs ia) bt sz), ((hs ia) 1, arJ E 40 nu), ((hs ib) 0, shO (hs ib) bt2 sz2), ((hs ib) 1, arJ E 40 nu2)]) (wf := [(ox 0, noO ox rr rk rt rb xt kp), (ox 2, arO E 4 (shF hs)), ((hs ia) 0, shO (hs ia) bt sz), ((hs ia) 1, arJ E 40 nu), ((hs ib) 0, shO (hs ib) bt2 sz2), ((hs ib) 1, arJ E 40 nu2), (ox 3, arI E 7 (upd fo 5 (fo 5 + 1)))]) (q0 := 0) (ci := 3) rfl rfl (c_X3_finding5 _ E (ox := ox) (rr := rr) (rk := rk) (rt := rt) (rb := rb) (xt := xt) (kp := kp) (fo := fo) ) gX3_copy_X3_finding cp_X3_finding (by decide) [0, 6] [1, 2, 3, 4, 5] [5, 0, 1, 2, 3, 4, 6] ⟨rfl, rfl, by decide, rfl⟩ rfl rfl (Nat.le_of_ble_eq_true rfl) dX3_copy_54 ?_
      exact G.iret hX hQ dX3_copy_57 (by rfl) (by rfl)
set_option maxHeartbeats 4000000 in
set_option maxRecDepth 100000 in
theorem c_X3_copykin2 (l : Launch) (E : EV) (ia : Nat) (ib : Nat) (f : Int32) (g : Int32) (k : Int32) (hs : Nat → Nat → Nat) (ox : Nat → Nat) (rr : Nat → Nat) (rk : Nat → Nat) (rt : Nat → Nat) (rb : Nat → Nat) (xt : Nat → Nat) (kp : Int32) (bt : Int32) (sz : Int32) (bt2 : Int32) (sz2 : Int32) (nu : Nat → Int64) (nu2 : Nat → Int64) (fo : Nat → Int32) (h1 : ia < 4) (h2 : ib < 4) (h3 : ¬ bt = 0) (h4 : ¬ bt2 = 0) (h5 : ¬ bt = bt2) : CI l yX3_copy wsX3_copy rmX3_copy E [.ref (ox 0), .int (nI ia), .int f, .int (nI ib), .int g, .int k] [(ox 0, noO ox rr rk rt rb xt kp), (ox 2, arO E 4 (shF hs)), ((hs ia) 0, shO (hs ia) bt sz), ((hs ia) 1, arJ E 40 nu), ((hs ib) 0, shO (hs ib) bt2 sz2), ((hs ib) 1, arJ E 40 nu2), (ox 3, arI E 7 fo)] [(ox 0, noO ox rr rk rt rb xt kp), (ox 2, arO E 4 (shF hs)), ((hs ia) 0, shO (hs ia) bt sz), ((hs ia) 1, arJ E 40 nu), ((hs ib) 0, shO (hs ib) bt2 sz2), ((hs ib) 1, arJ E 40 nu2), (ox 3, arI E 7 (upd fo 2 (fo 2 + 1)))] ((-1000000003)) := by
  refine CI.of (own := RX3) (cc := cX3_copy) (nL := 8) (rt := (some .int)) (by decide) rfl rfl (Nat.le_of_ble_eq_true rfl) (fun X hX hQ => ?_)
  show G E X 8 0 [(0, .ref (ox 0)), (1, .int (nI ia)), (2, .int f), (3, .int (nI ib)), (4, .int g), (5, .int k)] [] [(ox 0, noO ox rr rk rt rb xt kp), (ox 2, arO E 4 (shF hs)), ((hs ia) 0, shO (hs ia) bt sz), ((hs ia) 1, arJ E 40 nu), ((hs ib) 0, shO (hs ib) bt2 sz2), ((hs ib) 1, arJ E 40 nu2), (ox 3, arI E 7 fo)]
  refine G.iload_n hX 1 rfl dX3_copy_0 ?_
  refine G.s0i hX (As := [.int (nI ia)]) (st := []) (c_X3_isSheetn _ E (x := ia) (h1 := by omega)) gX3_copy_X3_isSheet cp_X3_isSheet (by decide) rfl rfl (Nat.le_of_ble_eq_true rfl) dX3_copy_1 ?_
  refine G.if_eq hX (tgt := 14) (by decide) dX3_copy_4 (fun c4 => absurd c4 (by decide)) (fun _ => ?_)
  refine G.iload_n hX 3 rfl dX3_copy_7 ?_
  refine G.s0i hX (As := [.int (nI ib)]) (st := []) (c_X3_isSheetn _ E (x := ib) (h1 := by omega)) gX3_copy_X3_isSheet cp_X3_isSheet (by decide) rfl rfl (Nat.le_of_ble_eq_true rfl) dX3_copy_8 ?_
  refine G.if_ne hX (tgt := 20) (by decide) dX3_copy_11 (fun _ => ?_) (fun c11 => absurd c11 (by decide))
  refine G.aload_n hX 0 rfl dX3_copy_20 ?_
  refine G.get hX inc_X3_copy_3 0 rfl rfl 6 (by decide) (by decide +kernel) rfl dX3_copy_21 ?_
  refine G.iload_n hX 1 rfl dX3_copy_24 ?_
  refine G.aald hX (j := ia) (v := .ref ((hs ia) 0)) 1 rfl (by omega) (by omega) (shF_at (by omega)) dX3_copy_25 ?_
  refine G.astore hX (lv' := [(6, .ref ((hs ia) 0)), (0, .ref (ox 0)), (1, .int (nI ia)), (2, .int f), (3, .int (nI ib)), (4, .int g), (5, .int k)]) (by decide) rfl dX3_copy_26 ?_
  refine G.aload_n hX 1 rfl dX3_copy_28 ?_
  refine G.get hX inc_X3_copy_3 0 rfl rfl 6 (by decide) (by decide +kernel) rfl dX3_copy_29 ?_
  refine G.iload_n hX 4 rfl dX3_copy_32 ?_
  refine G.aald hX (j := ib) (v := .ref ((hs ib) 0)) 1 rfl (by omega) (by omega) (shF_at (by omega)) dX3_copy_33 ?_
  refine G.astore hX (lv' := [(7, .ref ((hs ib) 0)), (6, .ref ((hs ia) 0)), (0, .ref (ox 0)), (1, .int (nI ia)), (2, .int f), (3, .int (nI ib)), (4, .int g), (5, .int k)]) (by decide) rfl dX3_copy_34 ?_
  refine G.aload hX 1 rfl dX3_copy_36 ?_
  refine G.vi hX (As := []) (st := []) (wr := [(ox 0, noO ox rr rk rt rb xt kp), (ox 2, arO E 4 (shF hs)), ((hs ia) 1, arJ E 40 nu), ((hs ib) 0, shO (hs ib) bt2 sz2), ((hs ib) 1, arJ E 40 nu2), (ox 3, arI E 7 fo)]) (wf := [(ox 0, noO ox rr rk rt rb xt kp), (ox 2, arO E 4 (shF hs)), ((hs ia) 0, shO (hs ia) bt sz), ((hs ia) 1, arJ E 40 nu), ((hs ib) 0, shO (hs ib) bt2 sz2), ((hs ib) 1, arJ E 40 nu2), (ox 3, arI E 7 fo)]) (q0 := 0) (ci := 1) rfl rfl (c_X1_isMissing _ E (a := hs ia) (bt := bt) (sz := sz) ) gX3_copy_X1_isMissing cp_X1_isMissing (by decide) [2] [0, 1, 3, 4, 5, 6] [0, 1, 6, 2, 3, 4, 5] ⟨rfl, rfl, by decide, rfl⟩ rfl rfl (Nat.le_of_ble_eq_true rfl) dX3_copy_38 ?_
  refine G.b_ne hX (tgt := 52) (by decide) dX3_copy_41 (fun c41 => ?_) (fun c41 => ?_)
  · first | exact absurd (of_decide_eq_true c41) h3 | exact absurd (of_decide_eq_true c41) h4
  · refine G.aload hX 0 rfl dX3_copy_44 ?_
    refine G.vi hX (As := []) (st := []) (wr := [(ox 0, noO ox rr rk rt rb xt kp), (ox 2, arO E 4 (shF hs)), ((hs ia) 0, shO (hs ia) bt sz), ((hs ia) 1, arJ E 40 nu), ((hs ib) 1, arJ E 40 nu2), (ox 3, arI E 7 fo)]) (wf := [(ox 0, noO ox rr rk rt rb xt kp), (ox 2, arO E 4 (shF hs)), ((hs ia) 0, shO (hs ia) bt sz), ((hs ia) 1, arJ E 40 nu), ((hs ib) 0, shO (hs ib) bt2 sz2), ((hs ib) 1, arJ E 40 nu2), (ox 3, arI E 7 fo)]) (q0 := 0) (ci := 1) rfl rfl (c_X1_isMissing _ E (a := hs ib) (bt := bt2) (sz := sz2) ) gX3_copy_X1_isMissing cp_X1_isMissing (by decide) [4] [0, 1, 2, 3, 5, 6] [0, 1, 2, 3, 6, 4, 5] ⟨rfl, rfl, by decide, rfl⟩ rfl rfl (Nat.le_of_ble_eq_true rfl) dX3_copy_46 ?_
    refine G.b_eq hX (tgt := 58) (by decide) dX3_copy_49 (fun c49 => ?_) (fun c49 => ?_)
    · refine G.aload hX 1 rfl dX3_copy_58 ?_
      refine G.get hX inc_X3_copy_1 2 rfl rfl 0 (by decide) (by decide +kernel) rfl dX3_copy_60 ?_
      refine G.aload hX 0 rfl dX3_copy_63 ?_
      refine G.get hX inc_X3_copy_1 4 rfl rfl 0 (by decide) (by decide +kernel) rfl dX3_copy_65 ?_
      refine G.icmp_eq hX (tgt := 77) (by decide) dX3_copy_68 (fun c68 => ?_) (fun c68 => ?_)
      · exact absurd c68 h5
      · refine G.aload_n hX 2 rfl dX3_copy_71 ?_
        refine G.iconst hX (v := 2) (by decide) dX3_copy_72 ?_
        refine G.vi hX (As := [.int 2]) (st := []) (wr := [(ox 2, arO E 4 (shF hs)), ((hs ia) 0, shO (hs ia) bt sz), ((hs ia) 1, arJ E 40 nu), ((hs ib) 0, shO (hs ib) bt2 sz2), ((hs ib) 1, arJ E 40 nu2)]) (wf := [(ox 0, noO ox rr rk rt rb xt kp), (ox 2, arO E 4 (shF hs)), ((hs ia) 0, shO (hs ia) bt sz), ((hs ia) 1, arJ E 40 nu), ((hs ib) 0, shO (hs ib) bt2 sz2), ((hs ib) 1, arJ E 40 nu2), (ox 3, arI E 7 (upd fo 2 (fo 2 + 1)))]) (q0 := 0) (ci := 3) rfl rfl (c_X3_finding2 _ E (ox := ox) (rr := rr) (rk := rk) (rt := rt) (rb := rb) (xt := xt) (kp := kp) (fo := fo) ) gX3_copy_X3_finding cp_X3_finding (by decide) [0, 6] [1, 2, 3, 4, 5] [5, 0, 1, 2, 3, 4, 6] ⟨rfl, rfl, by decide, rfl⟩ rfl rfl (Nat.le_of_ble_eq_true rfl) dX3_copy_73 ?_
        exact G.iret hX hQ dX3_copy_76 (by rfl) (by rfl)
    · first | exact absurd (of_decide_eq_true c49) h3 | exact absurd (of_decide_eq_true c49) h4
set_option maxHeartbeats 4000000 in
set_option maxRecDepth 100000 in
theorem c_X3_copybey2 (l : Launch) (E : EV) (ia : Nat) (ib : Nat) (f : Int32) (g : Int32) (k : Int32) (hs : Nat → Nat → Nat) (ox : Nat → Nat) (rr : Nat → Nat) (rk : Nat → Nat) (rt : Nat → Nat) (rb : Nat → Nat) (xt : Nat → Nat) (kp : Int32) (bt : Int32) (sz : Int32) (bt2 : Int32) (sz2 : Int32) (nu : Nat → Int64) (nu2 : Nat → Int64) (fo : Nat → Int32) (h1 : ia < 4) (h2 : ib < 4) (h3 : ¬ bt = 0) (h4 : bt = bt2) (h5 : (hsOK f k sz && hsOK g k sz2) = false) : CI l yX3_copy wsX3_copy rmX3_copy E [.ref (ox 0), .int (nI ia), .int f, .int (nI ib), .int g, .int k] [(ox 0, noO ox rr rk rt rb xt kp), (ox 2, arO E 4 (shF hs)), ((hs ia) 0, shO (hs ia) bt sz), ((hs ia) 1, arJ E 40 nu), ((hs ib) 0, shO (hs ib) bt2 sz2), ((hs ib) 1, arJ E 40 nu2), (ox 3, arI E 7 fo)] [(ox 0, noO ox rr rk rt rb xt kp), (ox 2, arO E 4 (shF hs)), ((hs ia) 0, shO (hs ia) bt sz), ((hs ia) 1, arJ E 40 nu), ((hs ib) 0, shO (hs ib) bt2 sz2), ((hs ib) 1, arJ E 40 nu2), (ox 3, arI E 7 (upd fo 0 (fo 0 + 1)))] ((-1000000001)) := by
  refine CI.of (own := RX3) (cc := cX3_copy) (nL := 8) (rt := (some .int)) (by decide) rfl rfl (Nat.le_of_ble_eq_true rfl) (fun X hX hQ => ?_)
  show G E X 8 0 [(0, .ref (ox 0)), (1, .int (nI ia)), (2, .int f), (3, .int (nI ib)), (4, .int g), (5, .int k)] [] [(ox 0, noO ox rr rk rt rb xt kp), (ox 2, arO E 4 (shF hs)), ((hs ia) 0, shO (hs ia) bt sz), ((hs ia) 1, arJ E 40 nu), ((hs ib) 0, shO (hs ib) bt2 sz2), ((hs ib) 1, arJ E 40 nu2), (ox 3, arI E 7 fo)]
  refine G.iload_n hX 1 rfl dX3_copy_0 ?_
  refine G.s0i hX (As := [.int (nI ia)]) (st := []) (c_X3_isSheetn _ E (x := ia) (h1 := by omega)) gX3_copy_X3_isSheet cp_X3_isSheet (by decide) rfl rfl (Nat.le_of_ble_eq_true rfl) dX3_copy_1 ?_
  refine G.if_eq hX (tgt := 14) (by decide) dX3_copy_4 (fun c4 => absurd c4 (by decide)) (fun _ => ?_)
  refine G.iload_n hX 3 rfl dX3_copy_7 ?_
  refine G.s0i hX (As := [.int (nI ib)]) (st := []) (c_X3_isSheetn _ E (x := ib) (h1 := by omega)) gX3_copy_X3_isSheet cp_X3_isSheet (by decide) rfl rfl (Nat.le_of_ble_eq_true rfl) dX3_copy_8 ?_
  refine G.if_ne hX (tgt := 20) (by decide) dX3_copy_11 (fun _ => ?_) (fun c11 => absurd c11 (by decide))
  refine G.aload_n hX 0 rfl dX3_copy_20 ?_
  refine G.get hX inc_X3_copy_3 0 rfl rfl 6 (by decide) (by decide +kernel) rfl dX3_copy_21 ?_
  refine G.iload_n hX 1 rfl dX3_copy_24 ?_
  refine G.aald hX (j := ia) (v := .ref ((hs ia) 0)) 1 rfl (by omega) (by omega) (shF_at (by omega)) dX3_copy_25 ?_
  refine G.astore hX (lv' := [(6, .ref ((hs ia) 0)), (0, .ref (ox 0)), (1, .int (nI ia)), (2, .int f), (3, .int (nI ib)), (4, .int g), (5, .int k)]) (by decide) rfl dX3_copy_26 ?_
  refine G.aload_n hX 1 rfl dX3_copy_28 ?_
  refine G.get hX inc_X3_copy_3 0 rfl rfl 6 (by decide) (by decide +kernel) rfl dX3_copy_29 ?_
  refine G.iload_n hX 4 rfl dX3_copy_32 ?_
  refine G.aald hX (j := ib) (v := .ref ((hs ib) 0)) 1 rfl (by omega) (by omega) (shF_at (by omega)) dX3_copy_33 ?_
  refine G.astore hX (lv' := [(7, .ref ((hs ib) 0)), (6, .ref ((hs ia) 0)), (0, .ref (ox 0)), (1, .int (nI ia)), (2, .int f), (3, .int (nI ib)), (4, .int g), (5, .int k)]) (by decide) rfl dX3_copy_34 ?_
  refine G.aload hX 1 rfl dX3_copy_36 ?_
  refine G.vi hX (As := []) (st := []) (wr := [(ox 0, noO ox rr rk rt rb xt kp), (ox 2, arO E 4 (shF hs)), ((hs ia) 1, arJ E 40 nu), ((hs ib) 0, shO (hs ib) bt2 sz2), ((hs ib) 1, arJ E 40 nu2), (ox 3, arI E 7 fo)]) (wf := [(ox 0, noO ox rr rk rt rb xt kp), (ox 2, arO E 4 (shF hs)), ((hs ia) 0, shO (hs ia) bt sz), ((hs ia) 1, arJ E 40 nu), ((hs ib) 0, shO (hs ib) bt2 sz2), ((hs ib) 1, arJ E 40 nu2), (ox 3, arI E 7 fo)]) (q0 := 0) (ci := 1) rfl rfl (c_X1_isMissing _ E (a := hs ia) (bt := bt) (sz := sz) ) gX3_copy_X1_isMissing cp_X1_isMissing (by decide) [2] [0, 1, 3, 4, 5, 6] [0, 1, 6, 2, 3, 4, 5] ⟨rfl, rfl, by decide, rfl⟩ rfl rfl (Nat.le_of_ble_eq_true rfl) dX3_copy_38 ?_
  refine G.b_ne hX (tgt := 52) (by decide) dX3_copy_41 (fun c41 => ?_) (fun c41 => ?_)
  · first | exact absurd (of_decide_eq_true c41) h3 | exact absurd ((h4).trans (of_decide_eq_true c41)) h3
  · refine G.aload hX 0 rfl dX3_copy_44 ?_
    refine G.vi hX (As := []) (st := []) (wr := [(ox 0, noO ox rr rk rt rb xt kp), (ox 2, arO E 4 (shF hs)), ((hs ia) 0, shO (hs ia) bt sz), ((hs ia) 1, arJ E 40 nu), ((hs ib) 1, arJ E 40 nu2), (ox 3, arI E 7 fo)]) (wf := [(ox 0, noO ox rr rk rt rb xt kp), (ox 2, arO E 4 (shF hs)), ((hs ia) 0, shO (hs ia) bt sz), ((hs ia) 1, arJ E 40 nu), ((hs ib) 0, shO (hs ib) bt2 sz2), ((hs ib) 1, arJ E 40 nu2), (ox 3, arI E 7 fo)]) (q0 := 0) (ci := 1) rfl rfl (c_X1_isMissing _ E (a := hs ib) (bt := bt2) (sz := sz2) ) gX3_copy_X1_isMissing cp_X1_isMissing (by decide) [4] [0, 1, 2, 3, 5, 6] [0, 1, 2, 3, 6, 4, 5] ⟨rfl, rfl, by decide, rfl⟩ rfl rfl (Nat.le_of_ble_eq_true rfl) dX3_copy_46 ?_
    refine G.b_eq hX (tgt := 58) (by decide) dX3_copy_49 (fun c49 => ?_) (fun c49 => ?_)
    · refine G.aload hX 1 rfl dX3_copy_58 ?_
      refine G.get hX inc_X3_copy_1 2 rfl rfl 0 (by decide) (by decide +kernel) rfl dX3_copy_60 ?_
      refine G.aload hX 0 rfl dX3_copy_63 ?_
      refine G.get hX inc_X3_copy_1 4 rfl rfl 0 (by decide) (by decide +kernel) rfl dX3_copy_65 ?_
      refine G.icmp_eq hX (tgt := 77) (by decide) dX3_copy_68 (fun c68 => ?_) (fun c68 => ?_)
      · refine G.aload hX 1 rfl dX3_copy_77 ?_
        refine G.iload_n hX 4 rfl dX3_copy_79 ?_
        refine G.iload hX 7 rfl dX3_copy_80 ?_
        refine G.vi hX (As := [.int f, .int k]) (st := []) (wr := [(ox 0, noO ox rr rk rt rb xt kp), (ox 2, arO E 4 (shF hs)), ((hs ia) 1, arJ E 40 nu), ((hs ib) 0, shO (hs ib) bt2 sz2), ((hs ib) 1, arJ E 40 nu2), (ox 3, arI E 7 fo)]) (wf := [(ox 0, noO ox rr rk rt rb xt kp), (ox 2, arO E 4 (shF hs)), ((hs ia) 0, shO (hs ia) bt sz), ((hs ia) 1, arJ E 40 nu), ((hs ib) 0, shO (hs ib) bt2 sz2), ((hs ib) 1, arJ E 40 nu2), (ox 3, arI E 7 fo)]) (q0 := 0) (ci := 1) rfl rfl (c_X1_has _ E (f := f) (k := k) (a := hs ia) (bt := bt) (sz := sz) ) gX3_copy_X1_has cp_X1_has (by decide) [2] [0, 1, 3, 4, 5, 6] [0, 1, 6, 2, 3, 4, 5] ⟨rfl, rfl, by decide, rfl⟩ rfl rfl (Nat.le_of_ble_eq_true rfl) dX3_copy_82 ?_
        refine G.b_eq hX (tgt := 100) (by decide) dX3_copy_85 (fun c85 => ?_) (fun c85 => ?_)
        · refine G.aload_n hX 2 rfl dX3_copy_100 ?_
          refine G.iconst hX (v := 0) (by decide) dX3_copy_101 ?_
          refine G.vi hX (As := [.int 0]) (st := []) (wr := [(ox 2, arO E 4 (shF hs)), ((hs ia) 0, shO (hs ia) bt sz), ((hs ia) 1, arJ E 40 nu), ((hs ib) 0, shO (hs ib) bt2 sz2), ((hs ib) 1, arJ E 40 nu2)]) (wf := [(ox 0, noO ox rr rk rt rb xt kp), (ox 2, arO E 4 (shF hs)), ((hs ia) 0, shO (hs ia) bt sz), ((hs ia) 1, arJ E 40 nu), ((hs ib) 0, shO (hs ib) bt2 sz2), ((hs ib) 1, arJ E 40 nu2), (ox 3, arI E 7 (upd fo 0 (fo 0 + 1)))]) (q0 := 0) (ci := 3) rfl rfl (c_X3_finding0 _ E (ox := ox) (rr := rr) (rk := rk) (rt := rt) (rb := rb) (xt := xt) (kp := kp) (fo := fo) ) gX3_copy_X3_finding cp_X3_finding (by decide) [0, 6] [1, 2, 3, 4, 5] [5, 0, 1, 2, 3, 4, 6] ⟨rfl, rfl, by decide, rfl⟩ rfl rfl (Nat.le_of_ble_eq_true rfl) dX3_copy_102 ?_
          exact G.iret hX hQ dX3_copy_105 (by rfl) (by rfl)
        · refine G.aload hX 0 rfl dX3_copy_88 ?_
          refine G.iload hX 6 rfl dX3_copy_90 ?_
          refine G.iload hX 7 rfl dX3_copy_92 ?_
          refine G.vi hX (As := [.int g, .int k]) (st := []) (wr := [(ox 0, noO ox rr rk rt rb xt kp), (ox 2, arO E 4 (shF hs)), ((hs ia) 0, shO (hs ia) bt sz), ((hs ia) 1, arJ E 40 nu), ((hs ib) 1, arJ E 40 nu2), (ox 3, arI E 7 fo)]) (wf := [(ox 0, noO ox rr rk rt rb xt kp), (ox 2, arO E 4 (shF hs)), ((hs ia) 0, shO (hs ia) bt sz), ((hs ia) 1, arJ E 40 nu), ((hs ib) 0, shO (hs ib) bt2 sz2), ((hs ib) 1, arJ E 40 nu2), (ox 3, arI E 7 fo)]) (q0 := 0) (ci := 1) rfl rfl (c_X1_has _ E (f := g) (k := k) (a := hs ib) (bt := bt2) (sz := sz2) ) gX3_copy_X1_has cp_X1_has (by decide) [4] [0, 1, 2, 3, 5, 6] [0, 1, 2, 3, 6, 4, 5] ⟨rfl, rfl, by decide, rfl⟩ rfl rfl (Nat.le_of_ble_eq_true rfl) dX3_copy_94 ?_
          refine G.b_ne hX (tgt := 106) (by decide) dX3_copy_97 (fun c97 => ?_) (fun c97 => ?_)
          · exact absurd h5 (by simp [c41, c49, c68, c85, c97])
          · refine G.aload_n hX 2 rfl dX3_copy_100 ?_
            refine G.iconst hX (v := 0) (by decide) dX3_copy_101 ?_
            refine G.vi hX (As := [.int 0]) (st := []) (wr := [(ox 2, arO E 4 (shF hs)), ((hs ia) 0, shO (hs ia) bt sz), ((hs ia) 1, arJ E 40 nu), ((hs ib) 0, shO (hs ib) bt2 sz2), ((hs ib) 1, arJ E 40 nu2)]) (wf := [(ox 0, noO ox rr rk rt rb xt kp), (ox 2, arO E 4 (shF hs)), ((hs ia) 0, shO (hs ia) bt sz), ((hs ia) 1, arJ E 40 nu), ((hs ib) 0, shO (hs ib) bt2 sz2), ((hs ib) 1, arJ E 40 nu2), (ox 3, arI E 7 (upd fo 0 (fo 0 + 1)))]) (q0 := 0) (ci := 3) rfl rfl (c_X3_finding0 _ E (ox := ox) (rr := rr) (rk := rk) (rt := rt) (rb := rb) (xt := xt) (kp := kp) (fo := fo) ) gX3_copy_X3_finding cp_X3_finding (by decide) [0, 6] [1, 2, 3, 4, 5] [5, 0, 1, 2, 3, 4, 6] ⟨rfl, rfl, by decide, rfl⟩ rfl rfl (Nat.le_of_ble_eq_true rfl) dX3_copy_102 ?_
            exact G.iret hX hQ dX3_copy_105 (by rfl) (by rfl)
      · exact absurd h4 c68
    · first | exact absurd (of_decide_eq_true c49) h3 | exact absurd ((h4).trans (of_decide_eq_true c49)) h3
set_option maxHeartbeats 4000000 in
set_option maxRecDepth 100000 in
theorem c_X3_copyok2 (l : Launch) (E : EV) (ia : Nat) (ib : Nat) (f : Nat) (g : Nat) (k : Nat) (hs : Nat → Nat → Nat) (ox : Nat → Nat) (rr : Nat → Nat) (rk : Nat → Nat) (rt : Nat → Nat) (rb : Nat → Nat) (xt : Nat → Nat) (kp : Int32) (bt : Int32) (z : Nat) (bt2 : Int32) (z2 : Nat) (nu : Nat → Int64) (nu2 : Nat → Int64) (h1 : ia < 4) (h2 : ib < 4) (h3 : ¬ bt = 0) (h4 : bt = bt2) (h5 : f + k ≤ z) (h6 : g + k ≤ z2) (h7 : z ≤ 40) (h8 : z2 ≤ 40) : CI l yX3_copy wsX3_copy rmX3_copy E [.ref (ox 0), .int (nI ia), .int (nI f), .int (nI ib), .int (nI g), .int (nI k)] [(ox 0, noO ox rr rk rt rb xt kp), (ox 2, arO E 4 (shF hs)), ((hs ia) 0, shO (hs ia) bt (nI z)), ((hs ia) 1, arJ E 40 nu), ((hs ib) 0, shO (hs ib) bt2 (nI z2)), ((hs ib) 1, arJ E 40 nu2)] [(ox 0, noO ox rr rk rt rb xt kp), (ox 2, arO E 4 (shF hs)), ((hs ia) 0, shO (hs ia) bt (nI z)), ((hs ia) 1, arJ E 40 nu), ((hs ib) 0, shO (hs ib) bt2 (nI z2)), ((hs ib) 1, arJ E 40 (va_cpy nu nu2 f g k))] (nI k) := by
  refine CI.of (own := RX3) (cc := cX3_copy) (nL := 8) (rt := (some .int)) (by decide) rfl rfl (Nat.le_of_ble_eq_true rfl) (fun X hX hQ => ?_)
  show G E X 8 0 [(0, .ref (ox 0)), (1, .int (nI ia)), (2, .int (nI f)), (3, .int (nI ib)), (4, .int (nI g)), (5, .int (nI k))] [] [(ox 0, noO ox rr rk rt rb xt kp), (ox 2, arO E 4 (shF hs)), ((hs ia) 0, shO (hs ia) bt (nI z)), ((hs ia) 1, arJ E 40 nu), ((hs ib) 0, shO (hs ib) bt2 (nI z2)), ((hs ib) 1, arJ E 40 nu2)]
  refine G.iload_n hX 1 rfl dX3_copy_0 ?_
  refine G.s0i hX (As := [.int (nI ia)]) (st := []) (c_X3_isSheetn _ E (x := ia) (h1 := by omega)) gX3_copy_X3_isSheet cp_X3_isSheet (by decide) rfl rfl (Nat.le_of_ble_eq_true rfl) dX3_copy_1 ?_
  refine G.if_eq hX (tgt := 14) (by decide) dX3_copy_4 (fun c4 => absurd c4 (by decide)) (fun _ => ?_)
  refine G.iload_n hX 3 rfl dX3_copy_7 ?_
  refine G.s0i hX (As := [.int (nI ib)]) (st := []) (c_X3_isSheetn _ E (x := ib) (h1 := by omega)) gX3_copy_X3_isSheet cp_X3_isSheet (by decide) rfl rfl (Nat.le_of_ble_eq_true rfl) dX3_copy_8 ?_
  refine G.if_ne hX (tgt := 20) (by decide) dX3_copy_11 (fun _ => ?_) (fun c11 => absurd c11 (by decide))
  refine G.aload_n hX 0 rfl dX3_copy_20 ?_
  refine G.get hX inc_X3_copy_3 0 rfl rfl 6 (by decide) (by decide +kernel) rfl dX3_copy_21 ?_
  refine G.iload_n hX 1 rfl dX3_copy_24 ?_
  refine G.aald hX (j := ia) (v := .ref ((hs ia) 0)) 1 rfl (by omega) (by omega) (shF_at (by omega)) dX3_copy_25 ?_
  refine G.astore hX (lv' := [(6, .ref ((hs ia) 0)), (0, .ref (ox 0)), (1, .int (nI ia)), (2, .int (nI f)), (3, .int (nI ib)), (4, .int (nI g)), (5, .int (nI k))]) (by decide) rfl dX3_copy_26 ?_
  refine G.aload_n hX 1 rfl dX3_copy_28 ?_
  refine G.get hX inc_X3_copy_3 0 rfl rfl 6 (by decide) (by decide +kernel) rfl dX3_copy_29 ?_
  refine G.iload_n hX 4 rfl dX3_copy_32 ?_
  refine G.aald hX (j := ib) (v := .ref ((hs ib) 0)) 1 rfl (by omega) (by omega) (shF_at (by omega)) dX3_copy_33 ?_
  refine G.astore hX (lv' := [(7, .ref ((hs ib) 0)), (6, .ref ((hs ia) 0)), (0, .ref (ox 0)), (1, .int (nI ia)), (2, .int (nI f)), (3, .int (nI ib)), (4, .int (nI g)), (5, .int (nI k))]) (by decide) rfl dX3_copy_34 ?_
  refine G.aload hX 1 rfl dX3_copy_36 ?_
  refine G.vi hX (As := []) (st := []) (wr := [(ox 0, noO ox rr rk rt rb xt kp), (ox 2, arO E 4 (shF hs)), ((hs ia) 1, arJ E 40 nu), ((hs ib) 0, shO (hs ib) bt2 (nI z2)), ((hs ib) 1, arJ E 40 nu2)]) (wf := [(ox 0, noO ox rr rk rt rb xt kp), (ox 2, arO E 4 (shF hs)), ((hs ia) 0, shO (hs ia) bt (nI z)), ((hs ia) 1, arJ E 40 nu), ((hs ib) 0, shO (hs ib) bt2 (nI z2)), ((hs ib) 1, arJ E 40 nu2)]) (q0 := 0) (ci := 1) rfl rfl (c_X1_isMissing _ E (a := hs ia) (bt := bt) (sz := nI z) ) gX3_copy_X1_isMissing cp_X1_isMissing (by decide) [2] [0, 1, 3, 4, 5] [0, 1, 5, 2, 3, 4] ⟨rfl, rfl, by decide, rfl⟩ rfl rfl (Nat.le_of_ble_eq_true rfl) dX3_copy_38 ?_
  refine G.b_ne hX (tgt := 52) (by decide) dX3_copy_41 (fun c41 => ?_) (fun c41 => ?_)
  · first | exact absurd (of_decide_eq_true c41) h3 | exact absurd ((h4).trans (of_decide_eq_true c41)) h3
  · refine G.aload hX 0 rfl dX3_copy_44 ?_
    refine G.vi hX (As := []) (st := []) (wr := [(ox 0, noO ox rr rk rt rb xt kp), (ox 2, arO E 4 (shF hs)), ((hs ia) 0, shO (hs ia) bt (nI z)), ((hs ia) 1, arJ E 40 nu), ((hs ib) 1, arJ E 40 nu2)]) (wf := [(ox 0, noO ox rr rk rt rb xt kp), (ox 2, arO E 4 (shF hs)), ((hs ia) 0, shO (hs ia) bt (nI z)), ((hs ia) 1, arJ E 40 nu), ((hs ib) 0, shO (hs ib) bt2 (nI z2)), ((hs ib) 1, arJ E 40 nu2)]) (q0 := 0) (ci := 1) rfl rfl (c_X1_isMissing _ E (a := hs ib) (bt := bt2) (sz := nI z2) ) gX3_copy_X1_isMissing cp_X1_isMissing (by decide) [4] [0, 1, 2, 3, 5] [0, 1, 2, 3, 5, 4] ⟨rfl, rfl, by decide, rfl⟩ rfl rfl (Nat.le_of_ble_eq_true rfl) dX3_copy_46 ?_
    refine G.b_eq hX (tgt := 58) (by decide) dX3_copy_49 (fun c49 => ?_) (fun c49 => ?_)
    · refine G.aload hX 1 rfl dX3_copy_58 ?_
      refine G.get hX inc_X3_copy_1 2 rfl rfl 0 (by decide) (by decide +kernel) rfl dX3_copy_60 ?_
      refine G.aload hX 0 rfl dX3_copy_63 ?_
      refine G.get hX inc_X3_copy_1 4 rfl rfl 0 (by decide) (by decide +kernel) rfl dX3_copy_65 ?_
      refine G.icmp_eq hX (tgt := 77) (by decide) dX3_copy_68 (fun c68 => ?_) (fun c68 => ?_)
      · refine G.aload hX 1 rfl dX3_copy_77 ?_
        refine G.iload_n hX 4 rfl dX3_copy_79 ?_
        refine G.iload hX 7 rfl dX3_copy_80 ?_
        refine G.vi hX (As := [.int (nI f), .int (nI k)]) (st := []) (wr := [(ox 0, noO ox rr rk rt rb xt kp), (ox 2, arO E 4 (shF hs)), ((hs ia) 1, arJ E 40 nu), ((hs ib) 0, shO (hs ib) bt2 (nI z2)), ((hs ib) 1, arJ E 40 nu2)]) (wf := [(ox 0, noO ox rr rk rt rb xt kp), (ox 2, arO E 4 (shF hs)), ((hs ia) 0, shO (hs ia) bt (nI z)), ((hs ia) 1, arJ E 40 nu), ((hs ib) 0, shO (hs ib) bt2 (nI z2)), ((hs ib) 1, arJ E 40 nu2)]) (q0 := 0) (ci := 1) rfl rfl (c_X1_hasn _ E (f := f) (k := k) (z := z) (a := hs ia) (bt := bt) (h1 := by omega) (h2 := by omega)) gX3_copy_X1_has cp_X1_has (by decide) [2] [0, 1, 3, 4, 5] [0, 1, 5, 2, 3, 4] ⟨rfl, rfl, by decide, rfl⟩ rfl rfl (Nat.le_of_ble_eq_true rfl) dX3_copy_82 ?_
        refine G.if_eq hX (tgt := 100) (by decide) dX3_copy_85 (fun c85 => absurd c85 (by decide)) (fun _ => ?_)
        refine G.aload hX 0 rfl dX3_copy_88 ?_
        refine G.iload hX 6 rfl dX3_copy_90 ?_
        refine G.iload hX 7 rfl dX3_copy_92 ?_
        refine G.vi hX (As := [.int (nI g), .int (nI k)]) (st := []) (wr := [(ox 0, noO ox rr rk rt rb xt kp), (ox 2, arO E 4 (shF hs)), ((hs ia) 0, shO (hs ia) bt (nI z)), ((hs ia) 1, arJ E 40 nu), ((hs ib) 1, arJ E 40 nu2)]) (wf := [(ox 0, noO ox rr rk rt rb xt kp), (ox 2, arO E 4 (shF hs)), ((hs ia) 0, shO (hs ia) bt (nI z)), ((hs ia) 1, arJ E 40 nu), ((hs ib) 0, shO (hs ib) bt2 (nI z2)), ((hs ib) 1, arJ E 40 nu2)]) (q0 := 0) (ci := 1) rfl rfl (c_X1_hasn _ E (f := g) (k := k) (z := z2) (a := hs ib) (bt := bt2) (h1 := by omega) (h2 := by omega)) gX3_copy_X1_has cp_X1_has (by decide) [4] [0, 1, 2, 3, 5] [0, 1, 2, 3, 5, 4] ⟨rfl, rfl, by decide, rfl⟩ rfl rfl (Nat.le_of_ble_eq_true rfl) dX3_copy_94 ?_
        refine G.if_ne hX (tgt := 106) (by decide) dX3_copy_97 (fun _ => ?_) (fun c97 => absurd c97 (by decide))
        refine G.aload hX 1 rfl dX3_copy_106 ?_
        refine G.get hX inc_X3_copy_1 2 rfl rfl 2 (by decide) (by decide +kernel) rfl dX3_copy_108 ?_
        refine G.iload_n hX 4 rfl dX3_copy_111 ?_
        refine G.aload hX 0 rfl dX3_copy_112 ?_
        refine G.get hX inc_X3_copy_1 4 rfl rfl 2 (by decide) (by decide +kernel) rfl dX3_copy_114 ?_
        refine G.iload hX 6 rfl dX3_copy_117 ?_
        refine G.iload hX 7 rfl dX3_copy_119 ?_
        refine G.copyl hX (n := k) (dp := g) (sp := f) (ws' := [(ox 0, noO ox rr rk rt rb xt kp), (ox 2, arO E 4 (shF hs)), ((hs ia) 0, shO (hs ia) bt (nI z)), ((hs ia) 1, arJ E 40 nu), ((hs ib) 0, shO (hs ib) bt2 (nI z2)), ((hs ib) 1, arJ E 40 (va_cpy nu nu2 f g k))]) (by decide +kernel) (by decide +kernel) (by decide +kernel) (by decide +kernel) 3 5 rfl rfl (by omega) (by omega) (by omega) (by omega) (by decide) (Nat.le_of_ble_eq_true rfl) rfl rfl dX3_copy_121 ?_
        refine G.iload hX 7 rfl dX3_copy_124 ?_
        exact G.iret hX hQ dX3_copy_126 (by rfl) (by rfl)
      · exact absurd h4 c68
    · first | exact absurd (of_decide_eq_true c49) h3 | exact absurd ((h4).trans (of_decide_eq_true c49)) h3
set_option maxHeartbeats 4000000 in
set_option maxRecDepth 100000 in
theorem c_X3_copymis1 (l : Launch) (E : EV) (ia : Nat) (f : Int32) (g : Int32) (k : Int32) (hs : Nat → Nat → Nat) (ox : Nat → Nat) (rr : Nat → Nat) (rk : Nat → Nat) (rt : Nat → Nat) (rb : Nat → Nat) (xt : Nat → Nat) (kp : Int32) (bt : Int32) (sz : Int32) (nu : Nat → Int64) (fo : Nat → Int32) (h1 : ia < 4) (h2 : bt = 0) : CI l yX3_copy wsX3_copy rmX3_copy E [.ref (ox 0), .int (nI ia), .int f, .int (nI ia), .int g, .int k] [(ox 0, noO ox rr rk rt rb xt kp), (ox 2, arO E 4 (shF hs)), ((hs ia) 0, shO (hs ia) bt sz), ((hs ia) 1, arJ E 40 nu), (ox 3, arI E 7 fo)] [(ox 0, noO ox rr rk rt rb xt kp), (ox 2, arO E 4 (shF hs)), ((hs ia) 0, shO (hs ia) bt sz), ((hs ia) 1, arJ E 40 nu), (ox 3, arI E 7 (upd fo 5 (fo 5 + 1)))] ((-1000000006)) := by
  refine CI.of (own := RX3) (cc := cX3_copy) (nL := 8) (rt := (some .int)) (by decide) rfl rfl (Nat.le_of_ble_eq_true rfl) (fun X hX hQ => ?_)
  show G E X 8 0 [(0, .ref (ox 0)), (1, .int (nI ia)), (2, .int f), (3, .int (nI ia)), (4, .int g), (5, .int k)] [] [(ox 0, noO ox rr rk rt rb xt kp), (ox 2, arO E 4 (shF hs)), ((hs ia) 0, shO (hs ia) bt sz), ((hs ia) 1, arJ E 40 nu), (ox 3, arI E 7 fo)]
  refine G.iload_n hX 1 rfl dX3_copy_0 ?_
  refine G.s0i hX (As := [.int (nI ia)]) (st := []) (c_X3_isSheetn _ E (x := ia) (h1 := by omega)) gX3_copy_X3_isSheet cp_X3_isSheet (by decide) rfl rfl (Nat.le_of_ble_eq_true rfl) dX3_copy_1 ?_
  refine G.if_eq hX (tgt := 14) (by decide) dX3_copy_4 (fun c4 => absurd c4 (by decide)) (fun _ => ?_)
  refine G.iload_n hX 3 rfl dX3_copy_7 ?_
  refine G.s0i hX (As := [.int (nI ia)]) (st := []) (c_X3_isSheetn _ E (x := ia) (h1 := by omega)) gX3_copy_X3_isSheet cp_X3_isSheet (by decide) rfl rfl (Nat.le_of_ble_eq_true rfl) dX3_copy_8 ?_
  refine G.if_ne hX (tgt := 20) (by decide) dX3_copy_11 (fun _ => ?_) (fun c11 => absurd c11 (by decide))
  refine G.aload_n hX 0 rfl dX3_copy_20 ?_
  refine G.get hX inc_X3_copy_3 0 rfl rfl 6 (by decide) (by decide +kernel) rfl dX3_copy_21 ?_
  refine G.iload_n hX 1 rfl dX3_copy_24 ?_
  refine G.aald hX (j := ia) (v := .ref ((hs ia) 0)) 1 rfl (by omega) (by omega) (shF_at (by omega)) dX3_copy_25 ?_
  refine G.astore hX (lv' := [(6, .ref ((hs ia) 0)), (0, .ref (ox 0)), (1, .int (nI ia)), (2, .int f), (3, .int (nI ia)), (4, .int g), (5, .int k)]) (by decide) rfl dX3_copy_26 ?_
  refine G.aload_n hX 1 rfl dX3_copy_28 ?_
  refine G.get hX inc_X3_copy_3 0 rfl rfl 6 (by decide) (by decide +kernel) rfl dX3_copy_29 ?_
  refine G.iload_n hX 4 rfl dX3_copy_32 ?_
  refine G.aald hX (j := ia) (v := .ref ((hs ia) 0)) 1 rfl (by omega) (by omega) (shF_at (by omega)) dX3_copy_33 ?_
  refine G.astore hX (lv' := [(7, .ref ((hs ia) 0)), (6, .ref ((hs ia) 0)), (0, .ref (ox 0)), (1, .int (nI ia)), (2, .int f), (3, .int (nI ia)), (4, .int g), (5, .int k)]) (by decide) rfl dX3_copy_34 ?_
  refine G.aload hX 1 rfl dX3_copy_36 ?_
  refine G.vi hX (As := []) (st := []) (wr := [(ox 0, noO ox rr rk rt rb xt kp), (ox 2, arO E 4 (shF hs)), ((hs ia) 1, arJ E 40 nu), (ox 3, arI E 7 fo)]) (wf := [(ox 0, noO ox rr rk rt rb xt kp), (ox 2, arO E 4 (shF hs)), ((hs ia) 0, shO (hs ia) bt sz), ((hs ia) 1, arJ E 40 nu), (ox 3, arI E 7 fo)]) (q0 := 0) (ci := 1) rfl rfl (c_X1_isMissing _ E (a := hs ia) (bt := bt) (sz := sz) ) gX3_copy_X1_isMissing cp_X1_isMissing (by decide) [2] [0, 1, 3, 4] [0, 1, 4, 2, 3] ⟨rfl, rfl, by decide, rfl⟩ rfl rfl (Nat.le_of_ble_eq_true rfl) dX3_copy_38 ?_
  refine G.b_ne hX (tgt := 52) (by decide) dX3_copy_41 (fun c41 => ?_) (fun c41 => ?_)
  · refine G.aload_n hX 2 rfl dX3_copy_52 ?_
    refine G.iconst hX (v := 5) (by decide) dX3_copy_53 ?_
    refine G.vi hX (As := [.int 5]) (st := []) (wr := [(ox 2, arO E 4 (shF hs)), ((hs ia) 0, shO (hs ia) bt sz), ((hs ia) 1, arJ E 40 nu)]) (wf := [(ox 0, noO ox rr rk rt rb xt kp), (ox 2, arO E 4 (shF hs)), ((hs ia) 0, shO (hs ia) bt sz), ((hs ia) 1, arJ E 40 nu), (ox 3, arI E 7 (upd fo 5 (fo 5 + 1)))]) (q0 := 0) (ci := 3) rfl rfl (c_X3_finding5 _ E (ox := ox) (rr := rr) (rk := rk) (rt := rt) (rb := rb) (xt := xt) (kp := kp) (fo := fo) ) gX3_copy_X3_finding cp_X3_finding (by decide) [0, 4] [1, 2, 3] [3, 0, 1, 2, 4] ⟨rfl, rfl, by decide, rfl⟩ rfl rfl (Nat.le_of_ble_eq_true rfl) dX3_copy_54 ?_
    exact G.iret hX hQ dX3_copy_57 (by rfl) (by rfl)
  · refine G.aload hX 0 rfl dX3_copy_44 ?_
    refine G.vi hX (As := []) (st := []) (wr := [(ox 0, noO ox rr rk rt rb xt kp), (ox 2, arO E 4 (shF hs)), ((hs ia) 1, arJ E 40 nu), (ox 3, arI E 7 fo)]) (wf := [(ox 0, noO ox rr rk rt rb xt kp), (ox 2, arO E 4 (shF hs)), ((hs ia) 0, shO (hs ia) bt sz), ((hs ia) 1, arJ E 40 nu), (ox 3, arI E 7 fo)]) (q0 := 0) (ci := 1) rfl rfl (c_X1_isMissing _ E (a := hs ia) (bt := bt) (sz := sz) ) gX3_copy_X1_isMissing cp_X1_isMissing (by decide) [2] [0, 1, 3, 4] [0, 1, 4, 2, 3] ⟨rfl, rfl, by decide, rfl⟩ rfl rfl (Nat.le_of_ble_eq_true rfl) dX3_copy_46 ?_
    refine G.b_eq hX (tgt := 58) (by decide) dX3_copy_49 (fun c49 => ?_) (fun c49 => ?_)
    · exact absurd h2 (by have e8 := of_decide_eq_false c41; have e9 := of_decide_eq_false c49; simp [e8, e9])
    · refine G.aload_n hX 2 rfl dX3_copy_52 ?_
      refine G.iconst hX (v := 5) (by decide) dX3_copy_53 ?_
      refine G.vi hX (As := [.int 5]) (st := []) (wr := [(ox 2, arO E 4 (shF hs)), ((hs ia) 0, shO (hs ia) bt sz), ((hs ia) 1, arJ E 40 nu)]) (wf := [(ox 0, noO ox rr rk rt rb xt kp), (ox 2, arO E 4 (shF hs)), ((hs ia) 0, shO (hs ia) bt sz), ((hs ia) 1, arJ E 40 nu), (ox 3, arI E 7 (upd fo 5 (fo 5 + 1)))]) (q0 := 0) (ci := 3) rfl rfl (c_X3_finding5 _ E (ox := ox) (rr := rr) (rk := rk) (rt := rt) (rb := rb) (xt := xt) (kp := kp) (fo := fo) ) gX3_copy_X3_finding cp_X3_finding (by decide) [0, 4] [1, 2, 3] [3, 0, 1, 2, 4] ⟨rfl, rfl, by decide, rfl⟩ rfl rfl (Nat.le_of_ble_eq_true rfl) dX3_copy_54 ?_
      exact G.iret hX hQ dX3_copy_57 (by rfl) (by rfl)
set_option maxHeartbeats 4000000 in
set_option maxRecDepth 100000 in
theorem c_X3_copybey1 (l : Launch) (E : EV) (ia : Nat) (f : Int32) (g : Int32) (k : Int32) (hs : Nat → Nat → Nat) (ox : Nat → Nat) (rr : Nat → Nat) (rk : Nat → Nat) (rt : Nat → Nat) (rb : Nat → Nat) (xt : Nat → Nat) (kp : Int32) (bt : Int32) (sz : Int32) (nu : Nat → Int64) (fo : Nat → Int32) (h1 : ia < 4) (h2 : ¬ bt = 0) (h3 : (hsOK f k sz && hsOK g k sz) = false) : CI l yX3_copy wsX3_copy rmX3_copy E [.ref (ox 0), .int (nI ia), .int f, .int (nI ia), .int g, .int k] [(ox 0, noO ox rr rk rt rb xt kp), (ox 2, arO E 4 (shF hs)), ((hs ia) 0, shO (hs ia) bt sz), ((hs ia) 1, arJ E 40 nu), (ox 3, arI E 7 fo)] [(ox 0, noO ox rr rk rt rb xt kp), (ox 2, arO E 4 (shF hs)), ((hs ia) 0, shO (hs ia) bt sz), ((hs ia) 1, arJ E 40 nu), (ox 3, arI E 7 (upd fo 0 (fo 0 + 1)))] ((-1000000001)) := by
  refine CI.of (own := RX3) (cc := cX3_copy) (nL := 8) (rt := (some .int)) (by decide) rfl rfl (Nat.le_of_ble_eq_true rfl) (fun X hX hQ => ?_)
  show G E X 8 0 [(0, .ref (ox 0)), (1, .int (nI ia)), (2, .int f), (3, .int (nI ia)), (4, .int g), (5, .int k)] [] [(ox 0, noO ox rr rk rt rb xt kp), (ox 2, arO E 4 (shF hs)), ((hs ia) 0, shO (hs ia) bt sz), ((hs ia) 1, arJ E 40 nu), (ox 3, arI E 7 fo)]
  refine G.iload_n hX 1 rfl dX3_copy_0 ?_
  refine G.s0i hX (As := [.int (nI ia)]) (st := []) (c_X3_isSheetn _ E (x := ia) (h1 := by omega)) gX3_copy_X3_isSheet cp_X3_isSheet (by decide) rfl rfl (Nat.le_of_ble_eq_true rfl) dX3_copy_1 ?_
  refine G.if_eq hX (tgt := 14) (by decide) dX3_copy_4 (fun c4 => absurd c4 (by decide)) (fun _ => ?_)
  refine G.iload_n hX 3 rfl dX3_copy_7 ?_
  refine G.s0i hX (As := [.int (nI ia)]) (st := []) (c_X3_isSheetn _ E (x := ia) (h1 := by omega)) gX3_copy_X3_isSheet cp_X3_isSheet (by decide) rfl rfl (Nat.le_of_ble_eq_true rfl) dX3_copy_8 ?_
  refine G.if_ne hX (tgt := 20) (by decide) dX3_copy_11 (fun _ => ?_) (fun c11 => absurd c11 (by decide))
  refine G.aload_n hX 0 rfl dX3_copy_20 ?_
  refine G.get hX inc_X3_copy_3 0 rfl rfl 6 (by decide) (by decide +kernel) rfl dX3_copy_21 ?_
  refine G.iload_n hX 1 rfl dX3_copy_24 ?_
  refine G.aald hX (j := ia) (v := .ref ((hs ia) 0)) 1 rfl (by omega) (by omega) (shF_at (by omega)) dX3_copy_25 ?_
  refine G.astore hX (lv' := [(6, .ref ((hs ia) 0)), (0, .ref (ox 0)), (1, .int (nI ia)), (2, .int f), (3, .int (nI ia)), (4, .int g), (5, .int k)]) (by decide) rfl dX3_copy_26 ?_
  refine G.aload_n hX 1 rfl dX3_copy_28 ?_
  refine G.get hX inc_X3_copy_3 0 rfl rfl 6 (by decide) (by decide +kernel) rfl dX3_copy_29 ?_
  refine G.iload_n hX 4 rfl dX3_copy_32 ?_
  refine G.aald hX (j := ia) (v := .ref ((hs ia) 0)) 1 rfl (by omega) (by omega) (shF_at (by omega)) dX3_copy_33 ?_
  refine G.astore hX (lv' := [(7, .ref ((hs ia) 0)), (6, .ref ((hs ia) 0)), (0, .ref (ox 0)), (1, .int (nI ia)), (2, .int f), (3, .int (nI ia)), (4, .int g), (5, .int k)]) (by decide) rfl dX3_copy_34 ?_
  refine G.aload hX 1 rfl dX3_copy_36 ?_
  refine G.vi hX (As := []) (st := []) (wr := [(ox 0, noO ox rr rk rt rb xt kp), (ox 2, arO E 4 (shF hs)), ((hs ia) 1, arJ E 40 nu), (ox 3, arI E 7 fo)]) (wf := [(ox 0, noO ox rr rk rt rb xt kp), (ox 2, arO E 4 (shF hs)), ((hs ia) 0, shO (hs ia) bt sz), ((hs ia) 1, arJ E 40 nu), (ox 3, arI E 7 fo)]) (q0 := 0) (ci := 1) rfl rfl (c_X1_isMissing _ E (a := hs ia) (bt := bt) (sz := sz) ) gX3_copy_X1_isMissing cp_X1_isMissing (by decide) [2] [0, 1, 3, 4] [0, 1, 4, 2, 3] ⟨rfl, rfl, by decide, rfl⟩ rfl rfl (Nat.le_of_ble_eq_true rfl) dX3_copy_38 ?_
  refine G.b_ne hX (tgt := 52) (by decide) dX3_copy_41 (fun c41 => ?_) (fun c41 => ?_)
  · exact absurd (of_decide_eq_true c41) h2
  · refine G.aload hX 0 rfl dX3_copy_44 ?_
    refine G.vi hX (As := []) (st := []) (wr := [(ox 0, noO ox rr rk rt rb xt kp), (ox 2, arO E 4 (shF hs)), ((hs ia) 1, arJ E 40 nu), (ox 3, arI E 7 fo)]) (wf := [(ox 0, noO ox rr rk rt rb xt kp), (ox 2, arO E 4 (shF hs)), ((hs ia) 0, shO (hs ia) bt sz), ((hs ia) 1, arJ E 40 nu), (ox 3, arI E 7 fo)]) (q0 := 0) (ci := 1) rfl rfl (c_X1_isMissing _ E (a := hs ia) (bt := bt) (sz := sz) ) gX3_copy_X1_isMissing cp_X1_isMissing (by decide) [2] [0, 1, 3, 4] [0, 1, 4, 2, 3] ⟨rfl, rfl, by decide, rfl⟩ rfl rfl (Nat.le_of_ble_eq_true rfl) dX3_copy_46 ?_
    refine G.b_eq hX (tgt := 58) (by decide) dX3_copy_49 (fun c49 => ?_) (fun c49 => ?_)
    · refine G.aload hX 1 rfl dX3_copy_58 ?_
      refine G.get hX inc_X3_copy_1 2 rfl rfl 0 (by decide) (by decide +kernel) rfl dX3_copy_60 ?_
      refine G.aload hX 0 rfl dX3_copy_63 ?_
      refine G.get hX inc_X3_copy_1 2 rfl rfl 0 (by decide) (by decide +kernel) rfl dX3_copy_65 ?_
      refine G.icmp_eq hX (tgt := 77) (by decide) dX3_copy_68 (fun c68 => ?_) (fun c68 => ?_)
      · refine G.aload hX 1 rfl dX3_copy_77 ?_
        refine G.iload_n hX 4 rfl dX3_copy_79 ?_
        refine G.iload hX 7 rfl dX3_copy_80 ?_
        refine G.vi hX (As := [.int f, .int k]) (st := []) (wr := [(ox 0, noO ox rr rk rt rb xt kp), (ox 2, arO E 4 (shF hs)), ((hs ia) 1, arJ E 40 nu), (ox 3, arI E 7 fo)]) (wf := [(ox 0, noO ox rr rk rt rb xt kp), (ox 2, arO E 4 (shF hs)), ((hs ia) 0, shO (hs ia) bt sz), ((hs ia) 1, arJ E 40 nu), (ox 3, arI E 7 fo)]) (q0 := 0) (ci := 1) rfl rfl (c_X1_has _ E (f := f) (k := k) (a := hs ia) (bt := bt) (sz := sz) ) gX3_copy_X1_has cp_X1_has (by decide) [2] [0, 1, 3, 4] [0, 1, 4, 2, 3] ⟨rfl, rfl, by decide, rfl⟩ rfl rfl (Nat.le_of_ble_eq_true rfl) dX3_copy_82 ?_
        refine G.b_eq hX (tgt := 100) (by decide) dX3_copy_85 (fun c85 => ?_) (fun c85 => ?_)
        · refine G.aload_n hX 2 rfl dX3_copy_100 ?_
          refine G.iconst hX (v := 0) (by decide) dX3_copy_101 ?_
          refine G.vi hX (As := [.int 0]) (st := []) (wr := [(ox 2, arO E 4 (shF hs)), ((hs ia) 0, shO (hs ia) bt sz), ((hs ia) 1, arJ E 40 nu)]) (wf := [(ox 0, noO ox rr rk rt rb xt kp), (ox 2, arO E 4 (shF hs)), ((hs ia) 0, shO (hs ia) bt sz), ((hs ia) 1, arJ E 40 nu), (ox 3, arI E 7 (upd fo 0 (fo 0 + 1)))]) (q0 := 0) (ci := 3) rfl rfl (c_X3_finding0 _ E (ox := ox) (rr := rr) (rk := rk) (rt := rt) (rb := rb) (xt := xt) (kp := kp) (fo := fo) ) gX3_copy_X3_finding cp_X3_finding (by decide) [0, 4] [1, 2, 3] [3, 0, 1, 2, 4] ⟨rfl, rfl, by decide, rfl⟩ rfl rfl (Nat.le_of_ble_eq_true rfl) dX3_copy_102 ?_
          exact G.iret hX hQ dX3_copy_105 (by rfl) (by rfl)
        · refine G.aload hX 0 rfl dX3_copy_88 ?_
          refine G.iload hX 6 rfl dX3_copy_90 ?_
          refine G.iload hX 7 rfl dX3_copy_92 ?_
          refine G.vi hX (As := [.int g, .int k]) (st := []) (wr := [(ox 0, noO ox rr rk rt rb xt kp), (ox 2, arO E 4 (shF hs)), ((hs ia) 1, arJ E 40 nu), (ox 3, arI E 7 fo)]) (wf := [(ox 0, noO ox rr rk rt rb xt kp), (ox 2, arO E 4 (shF hs)), ((hs ia) 0, shO (hs ia) bt sz), ((hs ia) 1, arJ E 40 nu), (ox 3, arI E 7 fo)]) (q0 := 0) (ci := 1) rfl rfl (c_X1_has _ E (f := g) (k := k) (a := hs ia) (bt := bt) (sz := sz) ) gX3_copy_X1_has cp_X1_has (by decide) [2] [0, 1, 3, 4] [0, 1, 4, 2, 3] ⟨rfl, rfl, by decide, rfl⟩ rfl rfl (Nat.le_of_ble_eq_true rfl) dX3_copy_94 ?_
          refine G.b_ne hX (tgt := 106) (by decide) dX3_copy_97 (fun c97 => ?_) (fun c97 => ?_)
          · exact absurd h3 (by simp [c41, c49, c68, c85, c97])
          · refine G.aload_n hX 2 rfl dX3_copy_100 ?_
            refine G.iconst hX (v := 0) (by decide) dX3_copy_101 ?_
            refine G.vi hX (As := [.int 0]) (st := []) (wr := [(ox 2, arO E 4 (shF hs)), ((hs ia) 0, shO (hs ia) bt sz), ((hs ia) 1, arJ E 40 nu)]) (wf := [(ox 0, noO ox rr rk rt rb xt kp), (ox 2, arO E 4 (shF hs)), ((hs ia) 0, shO (hs ia) bt sz), ((hs ia) 1, arJ E 40 nu), (ox 3, arI E 7 (upd fo 0 (fo 0 + 1)))]) (q0 := 0) (ci := 3) rfl rfl (c_X3_finding0 _ E (ox := ox) (rr := rr) (rk := rk) (rt := rt) (rb := rb) (xt := xt) (kp := kp) (fo := fo) ) gX3_copy_X3_finding cp_X3_finding (by decide) [0, 4] [1, 2, 3] [3, 0, 1, 2, 4] ⟨rfl, rfl, by decide, rfl⟩ rfl rfl (Nat.le_of_ble_eq_true rfl) dX3_copy_102 ?_
            exact G.iret hX hQ dX3_copy_105 (by rfl) (by rfl)
      · exact absurd rfl c68
    · exact absurd (of_decide_eq_true c49) h2
set_option maxHeartbeats 4000000 in
set_option maxRecDepth 100000 in
theorem c_X3_copyok1 (l : Launch) (E : EV) (ia : Nat) (f : Nat) (g : Nat) (k : Nat) (hs : Nat → Nat → Nat) (ox : Nat → Nat) (rr : Nat → Nat) (rk : Nat → Nat) (rt : Nat → Nat) (rb : Nat → Nat) (xt : Nat → Nat) (kp : Int32) (bt : Int32) (z : Nat) (nu : Nat → Int64) (h1 : ia < 4) (h2 : ¬ bt = 0) (h3 : f + k ≤ z) (h4 : g + k ≤ z) (h5 : z ≤ 40) : CI l yX3_copy wsX3_copy rmX3_copy E [.ref (ox 0), .int (nI ia), .int (nI f), .int (nI ia), .int (nI g), .int (nI k)] [(ox 0, noO ox rr rk rt rb xt kp), (ox 2, arO E 4 (shF hs)), ((hs ia) 0, shO (hs ia) bt (nI z)), ((hs ia) 1, arJ E 40 nu)] [(ox 0, noO ox rr rk rt rb xt kp), (ox 2, arO E 4 (shF hs)), ((hs ia) 0, shO (hs ia) bt (nI z)), ((hs ia) 1, arJ E 40 (va_cpy nu nu f g k))] (nI k) := by
  refine CI.of (own := RX3) (cc := cX3_copy) (nL := 8) (rt := (some .int)) (by decide) rfl rfl (Nat.le_of_ble_eq_true rfl) (fun X hX hQ => ?_)
  show G E X 8 0 [(0, .ref (ox 0)), (1, .int (nI ia)), (2, .int (nI f)), (3, .int (nI ia)), (4, .int (nI g)), (5, .int (nI k))] [] [(ox 0, noO ox rr rk rt rb xt kp), (ox 2, arO E 4 (shF hs)), ((hs ia) 0, shO (hs ia) bt (nI z)), ((hs ia) 1, arJ E 40 nu)]
  refine G.iload_n hX 1 rfl dX3_copy_0 ?_
  refine G.s0i hX (As := [.int (nI ia)]) (st := []) (c_X3_isSheetn _ E (x := ia) (h1 := by omega)) gX3_copy_X3_isSheet cp_X3_isSheet (by decide) rfl rfl (Nat.le_of_ble_eq_true rfl) dX3_copy_1 ?_
  refine G.if_eq hX (tgt := 14) (by decide) dX3_copy_4 (fun c4 => absurd c4 (by decide)) (fun _ => ?_)
  refine G.iload_n hX 3 rfl dX3_copy_7 ?_
  refine G.s0i hX (As := [.int (nI ia)]) (st := []) (c_X3_isSheetn _ E (x := ia) (h1 := by omega)) gX3_copy_X3_isSheet cp_X3_isSheet (by decide) rfl rfl (Nat.le_of_ble_eq_true rfl) dX3_copy_8 ?_
  refine G.if_ne hX (tgt := 20) (by decide) dX3_copy_11 (fun _ => ?_) (fun c11 => absurd c11 (by decide))
  refine G.aload_n hX 0 rfl dX3_copy_20 ?_
  refine G.get hX inc_X3_copy_3 0 rfl rfl 6 (by decide) (by decide +kernel) rfl dX3_copy_21 ?_
  refine G.iload_n hX 1 rfl dX3_copy_24 ?_
  refine G.aald hX (j := ia) (v := .ref ((hs ia) 0)) 1 rfl (by omega) (by omega) (shF_at (by omega)) dX3_copy_25 ?_
  refine G.astore hX (lv' := [(6, .ref ((hs ia) 0)), (0, .ref (ox 0)), (1, .int (nI ia)), (2, .int (nI f)), (3, .int (nI ia)), (4, .int (nI g)), (5, .int (nI k))]) (by decide) rfl dX3_copy_26 ?_
  refine G.aload_n hX 1 rfl dX3_copy_28 ?_
  refine G.get hX inc_X3_copy_3 0 rfl rfl 6 (by decide) (by decide +kernel) rfl dX3_copy_29 ?_
  refine G.iload_n hX 4 rfl dX3_copy_32 ?_
  refine G.aald hX (j := ia) (v := .ref ((hs ia) 0)) 1 rfl (by omega) (by omega) (shF_at (by omega)) dX3_copy_33 ?_
  refine G.astore hX (lv' := [(7, .ref ((hs ia) 0)), (6, .ref ((hs ia) 0)), (0, .ref (ox 0)), (1, .int (nI ia)), (2, .int (nI f)), (3, .int (nI ia)), (4, .int (nI g)), (5, .int (nI k))]) (by decide) rfl dX3_copy_34 ?_
  refine G.aload hX 1 rfl dX3_copy_36 ?_
  refine G.vi hX (As := []) (st := []) (wr := [(ox 0, noO ox rr rk rt rb xt kp), (ox 2, arO E 4 (shF hs)), ((hs ia) 1, arJ E 40 nu)]) (wf := [(ox 0, noO ox rr rk rt rb xt kp), (ox 2, arO E 4 (shF hs)), ((hs ia) 0, shO (hs ia) bt (nI z)), ((hs ia) 1, arJ E 40 nu)]) (q0 := 0) (ci := 1) rfl rfl (c_X1_isMissing _ E (a := hs ia) (bt := bt) (sz := nI z) ) gX3_copy_X1_isMissing cp_X1_isMissing (by decide) [2] [0, 1, 3] [0, 1, 3, 2] ⟨rfl, rfl, by decide, rfl⟩ rfl rfl (Nat.le_of_ble_eq_true rfl) dX3_copy_38 ?_
  refine G.b_ne hX (tgt := 52) (by decide) dX3_copy_41 (fun c41 => ?_) (fun c41 => ?_)
  · exact absurd (of_decide_eq_true c41) h2
  · refine G.aload hX 0 rfl dX3_copy_44 ?_
    refine G.vi hX (As := []) (st := []) (wr := [(ox 0, noO ox rr rk rt rb xt kp), (ox 2, arO E 4 (shF hs)), ((hs ia) 1, arJ E 40 nu)]) (wf := [(ox 0, noO ox rr rk rt rb xt kp), (ox 2, arO E 4 (shF hs)), ((hs ia) 0, shO (hs ia) bt (nI z)), ((hs ia) 1, arJ E 40 nu)]) (q0 := 0) (ci := 1) rfl rfl (c_X1_isMissing _ E (a := hs ia) (bt := bt) (sz := nI z) ) gX3_copy_X1_isMissing cp_X1_isMissing (by decide) [2] [0, 1, 3] [0, 1, 3, 2] ⟨rfl, rfl, by decide, rfl⟩ rfl rfl (Nat.le_of_ble_eq_true rfl) dX3_copy_46 ?_
    refine G.b_eq hX (tgt := 58) (by decide) dX3_copy_49 (fun c49 => ?_) (fun c49 => ?_)
    · refine G.aload hX 1 rfl dX3_copy_58 ?_
      refine G.get hX inc_X3_copy_1 2 rfl rfl 0 (by decide) (by decide +kernel) rfl dX3_copy_60 ?_
      refine G.aload hX 0 rfl dX3_copy_63 ?_
      refine G.get hX inc_X3_copy_1 2 rfl rfl 0 (by decide) (by decide +kernel) rfl dX3_copy_65 ?_
      refine G.icmp_eq hX (tgt := 77) (by decide) dX3_copy_68 (fun c68 => ?_) (fun c68 => ?_)
      · refine G.aload hX 1 rfl dX3_copy_77 ?_
        refine G.iload_n hX 4 rfl dX3_copy_79 ?_
        refine G.iload hX 7 rfl dX3_copy_80 ?_
        refine G.vi hX (As := [.int (nI f), .int (nI k)]) (st := []) (wr := [(ox 0, noO ox rr rk rt rb xt kp), (ox 2, arO E 4 (shF hs)), ((hs ia) 1, arJ E 40 nu)]) (wf := [(ox 0, noO ox rr rk rt rb xt kp), (ox 2, arO E 4 (shF hs)), ((hs ia) 0, shO (hs ia) bt (nI z)), ((hs ia) 1, arJ E 40 nu)]) (q0 := 0) (ci := 1) rfl rfl (c_X1_hasn _ E (f := f) (k := k) (z := z) (a := hs ia) (bt := bt) (h1 := by omega) (h2 := by omega)) gX3_copy_X1_has cp_X1_has (by decide) [2] [0, 1, 3] [0, 1, 3, 2] ⟨rfl, rfl, by decide, rfl⟩ rfl rfl (Nat.le_of_ble_eq_true rfl) dX3_copy_82 ?_
        refine G.if_eq hX (tgt := 100) (by decide) dX3_copy_85 (fun c85 => absurd c85 (by decide)) (fun _ => ?_)
        refine G.aload hX 0 rfl dX3_copy_88 ?_
        refine G.iload hX 6 rfl dX3_copy_90 ?_
        refine G.iload hX 7 rfl dX3_copy_92 ?_
        refine G.vi hX (As := [.int (nI g), .int (nI k)]) (st := []) (wr := [(ox 0, noO ox rr rk rt rb xt kp), (ox 2, arO E 4 (shF hs)), ((hs ia) 1, arJ E 40 nu)]) (wf := [(ox 0, noO ox rr rk rt rb xt kp), (ox 2, arO E 4 (shF hs)), ((hs ia) 0, shO (hs ia) bt (nI z)), ((hs ia) 1, arJ E 40 nu)]) (q0 := 0) (ci := 1) rfl rfl (c_X1_hasn _ E (f := g) (k := k) (z := z) (a := hs ia) (bt := bt) (h1 := by omega) (h2 := by omega)) gX3_copy_X1_has cp_X1_has (by decide) [2] [0, 1, 3] [0, 1, 3, 2] ⟨rfl, rfl, by decide, rfl⟩ rfl rfl (Nat.le_of_ble_eq_true rfl) dX3_copy_94 ?_
        refine G.if_ne hX (tgt := 106) (by decide) dX3_copy_97 (fun _ => ?_) (fun c97 => absurd c97 (by decide))
        refine G.aload hX 1 rfl dX3_copy_106 ?_
        refine G.get hX inc_X3_copy_1 2 rfl rfl 2 (by decide) (by decide +kernel) rfl dX3_copy_108 ?_
        refine G.iload_n hX 4 rfl dX3_copy_111 ?_
        refine G.aload hX 0 rfl dX3_copy_112 ?_
        refine G.get hX inc_X3_copy_1 2 rfl rfl 2 (by decide) (by decide +kernel) rfl dX3_copy_114 ?_
        refine G.iload hX 6 rfl dX3_copy_117 ?_
        refine G.iload hX 7 rfl dX3_copy_119 ?_
        refine G.copyl hX (n := k) (dp := g) (sp := f) (ws' := [(ox 0, noO ox rr rk rt rb xt kp), (ox 2, arO E 4 (shF hs)), ((hs ia) 0, shO (hs ia) bt (nI z)), ((hs ia) 1, arJ E 40 (va_cpy nu nu f g k))]) (by decide +kernel) (by decide +kernel) (by decide +kernel) (by decide +kernel) 3 3 rfl rfl (by omega) (by omega) (by omega) (by omega) (by decide) (Nat.le_of_ble_eq_true rfl) rfl rfl dX3_copy_121 ?_
        refine G.iload hX 7 rfl dX3_copy_124 ?_
        exact G.iret hX hQ dX3_copy_126 (by rfl) (by rfl)
      · exact absurd rfl c68
    · exact absurd (of_decide_eq_true c49) h2
abbrev rmX3_lays : Room := { frames := 1, cells := 0, slots := 0, locals := 21 }
theorem cp_X3_lays : CP yX3_lays RX3 wsX3_lays 6 1 rmX3_lays := ⟨⟨_, _, _, rfl⟩, rfl, rfl, by decide +kernel⟩
theorem inc_X3_lays_0 : ∀ w ∈ u_ws RX0 TX0 6, w ∈ wsX3_lays := by decide +kernel
theorem inc_X3_lays_3 : ∀ w ∈ u_ws RX3 TX3 9, w ∈ wsX3_lays := by decide +kernel
theorem inc_X3_lays_1 : ∀ w ∈ u_ws RX1 TX1 3, w ∈ wsX3_lays := by decide +kernel
set_option maxHeartbeats 4000000 in
set_option maxRecDepth 100000 in
theorem c_X3_laysbad (l : Launch) (E : EV) (x : Int32) (ox : Nat → Nat) (rr : Nat → Nat) (rk : Nat → Nat) (rt : Nat → Nat) (rb : Nat → Nat) (xt : Nat → Nat) (kp : Int32) (fo : Nat → Int32) (h1 : cIn 4 x = false) : CI l yX3_lays wsX3_lays rmX3_lays E [.ref (ox 0), .int x] [(ox 0, noO ox rr rk rt rb xt kp), (ox 3, arI E 7 fo)] [(ox 0, noO ox rr rk rt rb xt kp), (ox 3, arI E 7 (upd fo 0 (fo 0 + 1)))] ((-1000000001)) := by
  refine CI.of (own := RX3) (cc := cX3_lays) (nL := 6) (rt := (some .int)) (by decide) rfl rfl (Nat.le_of_ble_eq_true rfl) (fun X hX hQ => ?_)
  show G E X 6 0 [(0, .ref (ox 0)), (1, .int x)] [] [(ox 0, noO ox rr rk rt rb xt kp), (ox 3, arI E 7 fo)]
  refine G.iload_n hX 1 rfl dX3_lays_0 ?_
  refine G.s0i hX (As := [.int x]) (st := []) (c_X3_isSheet _ E (x := x) ) gX3_lays_X3_isSheet cp_X3_isSheet (by decide) rfl rfl (Nat.le_of_ble_eq_true rfl) dX3_lays_1 ?_
  refine G.b_ne hX (tgt := 13) (by decide) dX3_lays_4 (fun c4 => ?_) (fun c4 => ?_)
  · exact absurd h1 (by simp [c4])
  · refine G.aload_n hX 0 rfl dX3_lays_7 ?_
    refine G.iconst hX (v := 0) (by decide) dX3_lays_8 ?_
    refine G.vi hX (As := [.int 0]) (st := []) (wr := []) (wf := [(ox 0, noO ox rr rk rt rb xt kp), (ox 3, arI E 7 (upd fo 0 (fo 0 + 1)))]) (q0 := 0) (ci := 3) rfl rfl (c_X3_finding0 _ E (ox := ox) (rr := rr) (rk := rk) (rt := rt) (rb := rb) (xt := xt) (kp := kp) (fo := fo) ) gX3_lays_X3_finding cp_X3_finding (by decide) [0, 1] [] [0, 1] ⟨rfl, rfl, by decide, rfl⟩ rfl rfl (Nat.le_of_ble_eq_true rfl) dX3_lays_9 ?_
    exact G.iret hX hQ dX3_lays_12 (by rfl) (by rfl)
set_option maxHeartbeats 4000000 in
set_option maxRecDepth 100000 in
theorem c_X3_laysmis (l : Launch) (E : EV) (sh : Nat) (hs : Nat → Nat → Nat) (ox : Nat → Nat) (rr : Nat → Nat) (rk : Nat → Nat) (rt : Nat → Nat) (rb : Nat → Nat) (xt : Nat → Nat) (kp : Int32) (bt : Int32) (sz : Int32) (nu : Nat → Int64) (fo : Nat → Int32) (h1 : sh < 4) (h2 : bt = 0) : CI l yX3_lays wsX3_lays rmX3_lays E [.ref (ox 0), .int (nI sh)] [(ox 0, noO ox rr rk rt rb xt kp), (ox 2, arO E 4 (shF hs)), ((hs sh) 0, shO (hs sh) bt sz), ((hs sh) 1, arJ E 40 nu), (ox 3, arI E 7 fo)] [(ox 0, noO ox rr rk rt rb xt kp), (ox 2, arO E 4 (shF hs)), ((hs sh) 0, shO (hs sh) bt sz), ((hs sh) 1, arJ E 40 nu), (ox 3, arI E 7 (upd fo 5 (fo 5 + 1)))] ((-1000000006)) := by
  refine CI.of (own := RX3) (cc := cX3_lays) (nL := 6) (rt := (some .int)) (by decide) rfl rfl (Nat.le_of_ble_eq_true rfl) (fun X hX hQ => ?_)
  show G E X 6 0 [(0, .ref (ox 0)), (1, .int (nI sh))] [] [(ox 0, noO ox rr rk rt rb xt kp), (ox 2, arO E 4 (shF hs)), ((hs sh) 0, shO (hs sh) bt sz), ((hs sh) 1, arJ E 40 nu), (ox 3, arI E 7 fo)]
  refine G.iload_n hX 1 rfl dX3_lays_0 ?_
  refine G.s0i hX (As := [.int (nI sh)]) (st := []) (c_X3_isSheetn _ E (x := sh) (h1 := by omega)) gX3_lays_X3_isSheet cp_X3_isSheet (by decide) rfl rfl (Nat.le_of_ble_eq_true rfl) dX3_lays_1 ?_
  refine G.if_ne hX (tgt := 13) (by decide) dX3_lays_4 (fun _ => ?_) (fun c4 => absurd c4 (by decide))
  refine G.aload_n hX 0 rfl dX3_lays_13 ?_
  refine G.get hX inc_X3_lays_3 0 rfl rfl 6 (by decide) (by decide +kernel) rfl dX3_lays_14 ?_
  refine G.iload_n hX 1 rfl dX3_lays_17 ?_
  refine G.aald hX (j := sh) (v := .ref ((hs sh) 0)) 1 rfl (by omega) (by omega) (shF_at (by omega)) dX3_lays_18 ?_
  refine G.vi hX (As := []) (st := []) (wr := [(ox 0, noO ox rr rk rt rb xt kp), (ox 2, arO E 4 (shF hs)), ((hs sh) 1, arJ E 40 nu), (ox 3, arI E 7 fo)]) (wf := [(ox 0, noO ox rr rk rt rb xt kp), (ox 2, arO E 4 (shF hs)), ((hs sh) 0, shO (hs sh) bt sz), ((hs sh) 1, arJ E 40 nu), (ox 3, arI E 7 fo)]) (q0 := 0) (ci := 1) rfl rfl (c_X1_isMissing _ E (a := hs sh) (bt := bt) (sz := sz) ) gX3_lays_X1_isMissing cp_X1_isMissing (by decide) [2] [0, 1, 3, 4] [0, 1, 4, 2, 3] ⟨rfl, rfl, by decide, rfl⟩ rfl rfl (Nat.le_of_ble_eq_true rfl) dX3_lays_19 ?_
  refine G.b_eq hX (tgt := 31) (by decide) dX3_lays_22 (fun c22 => ?_) (fun c22 => ?_)
  · exact absurd h2 (of_decide_eq_false c22)
  · refine G.aload_n hX 0 rfl dX3_lays_25 ?_
    refine G.iconst hX (v := 5) (by decide) dX3_lays_26 ?_
    refine G.vi hX (As := [.int 5]) (st := []) (wr := [(ox 2, arO E 4 (shF hs)), ((hs sh) 0, shO (hs sh) bt sz), ((hs sh) 1, arJ E 40 nu)]) (wf := [(ox 0, noO ox rr rk rt rb xt kp), (ox 2, arO E 4 (shF hs)), ((hs sh) 0, shO (hs sh) bt sz), ((hs sh) 1, arJ E 40 nu), (ox 3, arI E 7 (upd fo 5 (fo 5 + 1)))]) (q0 := 0) (ci := 3) rfl rfl (c_X3_finding5 _ E (ox := ox) (rr := rr) (rk := rk) (rt := rt) (rb := rb) (xt := xt) (kp := kp) (fo := fo) ) gX3_lays_X3_finding cp_X3_finding (by decide) [0, 4] [1, 2, 3] [3, 0, 1, 2, 4] ⟨rfl, rfl, by decide, rfl⟩ rfl rfl (Nat.le_of_ble_eq_true rfl) dX3_lays_27 ?_
    exact G.iret hX hQ dX3_lays_30 (by rfl) (by rfl)
set_option maxHeartbeats 4000000 in
set_option maxRecDepth 100000 in
theorem c_X3_laysok (l : Launch) (E : EV) (sh : Nat) (z : Nat) (r : AV) (hs : Nat → Nat → Nat) (ox : Nat → Nat) (rr : Nat → Nat) (rk : Nat → Nat) (rt : Nat → Nat) (rb : Nat → Nat) (xt : Nat → Nat) (kp : Int32) (bt : Int32) (nu : Nat → Int64) (h1 : sh < 4) (h2 : ¬ bt = 0) (h3 : z ≤ 40) : CI l yX3_lays wsX3_lays rmX3_lays E [.ref (ox 0), .int (nI sh)] [(ox 0, noO ox rr rk rt rb xt kp), (rr 0, avO rr r.1 r.2.1), (rr 1, arI E 12 r.2.2.1), (rr 2, arI E 12 r.2.2.2.1), (rr 3, arI E 12 r.2.2.2.2.1), (rr 4, arI E 96 r.2.2.2.2.2), (ox 2, arO E 4 (shF hs)), ((hs sh) 0, shO (hs sh) bt (nI z)), ((hs sh) 1, arJ E 40 nu)] [(ox 0, noO ox rr rk rt rb xt kp), (rr 0, avO rr (((it (cLyS nu) (min z 12) (r, 0)).1).1) (((it (cLyS nu) (min z 12) (r, 0)).1).2.1)), (rr 1, arI E 12 (((it (cLyS nu) (min z 12) (r, 0)).1).2.2.1)), (rr 2, arI E 12 (((it (cLyS nu) (min z 12) (r, 0)).1).2.2.2.1)), (rr 3, arI E 12 (((it (cLyS nu) (min z 12) (r, 0)).1).2.2.2.2.1)), (rr 4, arI E 96 (((it (cLyS nu) (min z 12) (r, 0)).1).2.2.2.2.2)), (ox 2, arO E 4 (shF hs)), ((hs sh) 0, shO (hs sh) bt (nI z)), ((hs sh) 1, arJ E 40 nu)] (nI ((it (cLyS nu) (min z 12) (r, 0)).2)) := by
  refine CI.of (own := RX3) (cc := cX3_lays) (nL := 6) (rt := (some .int)) (by decide) rfl rfl (Nat.le_of_ble_eq_true rfl) (fun X hX hQ => ?_)
  show G E X 6 0 [(0, .ref (ox 0)), (1, .int (nI sh))] [] [(ox 0, noO ox rr rk rt rb xt kp), (rr 0, avO rr r.1 r.2.1), (rr 1, arI E 12 r.2.2.1), (rr 2, arI E 12 r.2.2.2.1), (rr 3, arI E 12 r.2.2.2.2.1), (rr 4, arI E 96 r.2.2.2.2.2), (ox 2, arO E 4 (shF hs)), ((hs sh) 0, shO (hs sh) bt (nI z)), ((hs sh) 1, arJ E 40 nu)]
  refine G.iload_n hX 1 rfl dX3_lays_0 ?_
  refine G.s0i hX (As := [.int (nI sh)]) (st := []) (c_X3_isSheetn _ E (x := sh) (h1 := by omega)) gX3_lays_X3_isSheet cp_X3_isSheet (by decide) rfl rfl (Nat.le_of_ble_eq_true rfl) dX3_lays_1 ?_
  refine G.if_ne hX (tgt := 13) (by decide) dX3_lays_4 (fun _ => ?_) (fun c4 => absurd c4 (by decide))
  refine G.aload_n hX 0 rfl dX3_lays_13 ?_
  refine G.get hX inc_X3_lays_3 0 rfl rfl 6 (by decide) (by decide +kernel) rfl dX3_lays_14 ?_
  refine G.iload_n hX 1 rfl dX3_lays_17 ?_
  refine G.aald hX (j := sh) (v := .ref ((hs sh) 0)) 6 rfl (by omega) (by omega) (shF_at (by omega)) dX3_lays_18 ?_
  refine G.vi hX (As := []) (st := []) (wr := [(ox 0, noO ox rr rk rt rb xt kp), (rr 0, avO rr r.1 r.2.1), (rr 1, arI E 12 r.2.2.1), (rr 2, arI E 12 r.2.2.2.1), (rr 3, arI E 12 r.2.2.2.2.1), (rr 4, arI E 96 r.2.2.2.2.2), (ox 2, arO E 4 (shF hs)), ((hs sh) 1, arJ E 40 nu)]) (wf := [(ox 0, noO ox rr rk rt rb xt kp), (rr 0, avO rr r.1 r.2.1), (rr 1, arI E 12 r.2.2.1), (rr 2, arI E 12 r.2.2.2.1), (rr 3, arI E 12 r.2.2.2.2.1), (rr 4, arI E 96 r.2.2.2.2.2), (ox 2, arO E 4 (shF hs)), ((hs sh) 0, shO (hs sh) bt (nI z)), ((hs sh) 1, arJ E 40 nu)]) (q0 := 0) (ci := 1) rfl rfl (c_X1_isMissing _ E (a := hs sh) (bt := bt) (sz := nI z) ) gX3_lays_X1_isMissing cp_X1_isMissing (by decide) [7] [0, 1, 2, 3, 4, 5, 6, 8] [0, 1, 2, 3, 4, 5, 6, 8, 7] ⟨rfl, rfl, by decide, rfl⟩ rfl rfl (Nat.le_of_ble_eq_true rfl) dX3_lays_19 ?_
  refine G.b_eq hX (tgt := 31) (by decide) dX3_lays_22 (fun c22 => ?_) (fun c22 => ?_)
  · refine G.iconst hX (v := 0) (by decide) dX3_lays_31 ?_
    refine G.istore_n hX (lv' := [(2, .int 0), (0, .ref (ox 0)), (1, .int (nI sh))]) rfl (by decide) rfl dX3_lays_32 ?_
    refine G.iconst hX (v := 0) (by decide) dX3_lays_33 ?_
    refine G.istore_n hX (lv' := [(3, .int 0), (2, .int 0), (0, .ref (ox 0)), (1, .int (nI sh))]) rfl (by decide) rfl dX3_lays_34 ?_
    have L35 : ∀ (n : Nat) (k : Nat), k ≤ 12 → k ≤ z → 13 ≤ k + n → G E X 6 35 [(0, .ref (ox 0)), (1, .int (nI sh)), (2, .int (nI ((it (cLyS nu) k (r, 0)).2))), (3, .int (nI k))] [] [(ox 0, noO ox rr rk rt rb xt kp), (rr 0, avO rr (((it (cLyS nu) k (r, 0)).1).1) (((it (cLyS nu) k (r, 0)).1).2.1)), (rr 1, arI E 12 (((it (cLyS nu) k (r, 0)).1).2.2.1)), (rr 2, arI E 12 (((it (cLyS nu) k (r, 0)).1).2.2.2.1)), (rr 3, arI E 12 (((it (cLyS nu) k (r, 0)).1).2.2.2.2.1)), (rr 4, arI E 96 (((it (cLyS nu) k (r, 0)).1).2.2.2.2.2)), (ox 2, arO E 4 (shF hs)), ((hs sh) 0, shO (hs sh) bt (nI z)), ((hs sh) 1, arJ E 40 nu)] := by
      intro n
      induction n with
      | zero => intro k hl35_0 hl35_1 hl35_2; exact absurd hl35_2 (by omega)
      | succ n ih35 =>
        intro k hl35_0 hl35_1 hl35_2
        refine G.iload_n hX 3 rfl dX3_lays_35 ?_
        refine G.bipush hX (v := 12) (by decide) dX3_lays_36 ?_
        refine G.n_ge hX (a := k) (b := 12) (tgt := 104) (by omega) (by omega) (by decide) dX3_lays_38 (fun c38 => ?_) (fun c38 => ?_)
        · refine G.iload_n hX 2 rfl dX3_lays_104 ?_
          exact G.iret hX hQ dX3_lays_105 (by have ek : min z 12 = k := (by omega); rw [ek]) (by have ek : min z 12 = k := (by omega); rw [ek])
        · refine G.iload_n hX 3 rfl dX3_lays_41 ?_
          refine G.aload_n hX 0 rfl dX3_lays_42 ?_
          refine G.get hX inc_X3_lays_3 0 rfl rfl 6 (by decide) (by decide +kernel) rfl dX3_lays_43 ?_
          refine G.iload_n hX 1 rfl dX3_lays_46 ?_
          refine G.aald hX (j := sh) (v := .ref ((hs sh) 0)) 6 rfl (by omega) (by omega) (shF_at (by omega)) dX3_lays_47 ?_
          refine G.get hX inc_X3_lays_1 7 rfl rfl 1 (by decide) (by decide +kernel) rfl dX3_lays_48 ?_
          refine G.n_ge hX (a := k) (b := z) (tgt := 104) (by omega) (by omega) (by decide) dX3_lays_51 (fun c51 => ?_) (fun c51 => ?_)
          · refine G.iload_n hX 2 rfl dX3_lays_104 ?_
            exact G.iret hX hQ dX3_lays_105 (by have ek : min z 12 = k := (by omega); rw [ek]) (by have ek : min z 12 = k := (by omega); rw [ek])
          · have J98 : G E X 6 98 [(0, .ref (ox 0)), (1, .int (nI sh)), (2, .int (nI ((it (cLyS nu) (k + 1) (r, 0)).2))), (3, .int (nI k))] [] [(ox 0, noO ox rr rk rt rb xt kp), (rr 0, avO rr (((it (cLyS nu) (k + 1) (r, 0)).1).1) (((it (cLyS nu) (k + 1) (r, 0)).1).2.1)), (rr 1, arI E 12 (((it (cLyS nu) (k + 1) (r, 0)).1).2.2.1)), (rr 2, arI E 12 (((it (cLyS nu) (k + 1) (r, 0)).1).2.2.2.1)), (rr 3, arI E 12 (((it (cLyS nu) (k + 1) (r, 0)).1).2.2.2.2.1)), (rr 4, arI E 96 (((it (cLyS nu) (k + 1) (r, 0)).1).2.2.2.2.2)), (ox 2, arO E 4 (shF hs)), ((hs sh) 0, shO (hs sh) bt (nI z)), ((hs sh) 1, arJ E 40 nu)] := by
              refine G.iinc hX (n := 1) (lv' := [(3, .int (nI (k + 1))), (0, .ref (ox 0)), (1, .int (nI sh)), (2, .int (nI ((it (cLyS nu) (k + 1) (r, 0)).2)))]) 3 rfl (inc_nI k 1 rfl) (by decide) rfl dX3_lays_98 ?_
              refine G.goto hX (tgt := 35) (by decide) dX3_lays_101 ?_
              refine G.lvp (lv' := [(0, .ref (ox 0)), (1, .int (nI sh)), (2, .int (nI ((it (cLyS nu) (k + 1) (r, 0)).2))), (3, .int (nI (k + 1)))]) [1, 2, 3, 0] rfl ?_
              refine G.lve (lv' := [(0, .ref (ox 0)), (1, .int (nI sh)), (2, .int (nI ((it (cLyS nu) (k + 1) (r, 0)).2))), (3, .int (nI ((k + 1))))]) (by rfl) ?_
              exact ih35 (k + 1) (by omega) (by omega) (by omega)
            refine G.aload_n hX 0 rfl dX3_lays_54 ?_
            refine G.get hX inc_X3_lays_3 0 rfl rfl 6 (by decide) (by decide +kernel) rfl dX3_lays_55 ?_
            refine G.iload_n hX 1 rfl dX3_lays_58 ?_
            refine G.aald hX (j := sh) (v := .ref ((hs sh) 0)) 6 rfl (by omega) (by omega) (shF_at (by omega)) dX3_lays_59 ?_
            refine G.get hX inc_X3_lays_1 7 rfl rfl 2 (by decide) (by decide +kernel) rfl dX3_lays_60 ?_
            refine G.iload_n hX 3 rfl dX3_lays_63 ?_
            refine G.lald hX (j := k) 8 rfl (by omega) (by omega) dX3_lays_64 ?_
            refine G.lstore hX (lv' := [(4, .long (nu k)), (0, .ref (ox 0)), (1, .int (nI sh)), (2, .int (nI ((it (cLyS nu) k (r, 0)).2))), (3, .int (nI k))]) (by decide) rfl dX3_lays_65 ?_
            refine G.lload hX 0 rfl dX3_lays_67 ?_
            refine G.lconst hX (v := 0) (by decide) dX3_lays_69 ?_
            refine G.lcmp hX dX3_lays_70 ?_
            refine G.c_lt hX (tgt := 98) (by decide) dX3_lays_71 (fun c71 => ?_) (fun c71 => ?_)
            · refine G.lvp (lv' := [(0, .ref (ox 0)), (1, .int (nI sh)), (2, .int (nI ((it (cLyS nu) k (r, 0)).2))), (3, .int (nI k))]) [1, 2, 3, 4] rfl ?_
              refine G.lve (lv' := [(0, .ref (ox 0)), (1, .int (nI sh)), (2, .int (nI ((it (cLyS nu) (k + 1) (r, 0)).2))), (3, .int (nI k))]) (by simp only [it_s, cLyS, cLyB, av_aged, c22, c38, c51, c71, decide_true, decide_false, Bool.not_true, Bool.not_false, Bool.and_true, Bool.true_and, Bool.and_false, Bool.false_and, ↓reduceIte, Bool.false_eq_true]) ?_
              refine G.we (ws' := [(ox 0, noO ox rr rk rt rb xt kp), (rr 0, avO rr (((it (cLyS nu) (k + 1) (r, 0)).1).1) (((it (cLyS nu) (k + 1) (r, 0)).1).2.1)), (rr 1, arI E 12 (((it (cLyS nu) (k + 1) (r, 0)).1).2.2.1)), (rr 2, arI E 12 (((it (cLyS nu) (k + 1) (r, 0)).1).2.2.2.1)), (rr 3, arI E 12 (((it (cLyS nu) (k + 1) (r, 0)).1).2.2.2.2.1)), (rr 4, arI E 96 (((it (cLyS nu) (k + 1) (r, 0)).1).2.2.2.2.2)), (ox 2, arO E 4 (shF hs)), ((hs sh) 0, shO (hs sh) bt (nI z)), ((hs sh) 1, arJ E 40 nu)]) (by simp only [it_s, cLyS, cLyB, av_aged, c22, c38, c51, c71, decide_true, decide_false, Bool.not_true, Bool.not_false, Bool.and_true, Bool.true_and, Bool.and_false, Bool.false_and, ↓reduceIte, Bool.false_eq_true]) ?_
              exact J98
            · refine G.lload hX 0 rfl dX3_lays_74 ?_
              refine G.ldc2 hX (v := 999) (by decide +kernel) dX3_lays_76 ?_
              refine G.lcmp hX dX3_lays_79 ?_
              refine G.c_gt hX (tgt := 98) (by decide) dX3_lays_80 (fun c80 => ?_) (fun c80 => ?_)
              · refine G.lvp (lv' := [(0, .ref (ox 0)), (1, .int (nI sh)), (2, .int (nI ((it (cLyS nu) k (r, 0)).2))), (3, .int (nI k))]) [1, 2, 3, 4] rfl ?_
                refine G.lve (lv' := [(0, .ref (ox 0)), (1, .int (nI sh)), (2, .int (nI ((it (cLyS nu) (k + 1) (r, 0)).2))), (3, .int (nI k))]) (by simp only [it_s, cLyS, cLyB, av_aged, c22, c38, c51, c71, c80, decide_true, decide_false, Bool.not_true, Bool.not_false, Bool.and_true, Bool.true_and, Bool.and_false, Bool.false_and, ↓reduceIte, Bool.false_eq_true]) ?_
                refine G.we (ws' := [(ox 0, noO ox rr rk rt rb xt kp), (rr 0, avO rr (((it (cLyS nu) (k + 1) (r, 0)).1).1) (((it (cLyS nu) (k + 1) (r, 0)).1).2.1)), (rr 1, arI E 12 (((it (cLyS nu) (k + 1) (r, 0)).1).2.2.1)), (rr 2, arI E 12 (((it (cLyS nu) (k + 1) (r, 0)).1).2.2.2.1)), (rr 3, arI E 12 (((it (cLyS nu) (k + 1) (r, 0)).1).2.2.2.2.1)), (rr 4, arI E 96 (((it (cLyS nu) (k + 1) (r, 0)).1).2.2.2.2.2)), (ox 2, arO E 4 (shF hs)), ((hs sh) 0, shO (hs sh) bt (nI z)), ((hs sh) 1, arJ E 40 nu)]) (by simp only [it_s, cLyS, cLyB, av_aged, c22, c38, c51, c71, c80, decide_true, decide_false, Bool.not_true, Bool.not_false, Bool.and_true, Bool.true_and, Bool.and_false, Bool.false_and, ↓reduceIte, Bool.false_eq_true]) ?_
                exact J98
              · refine G.aload_n hX 1 rfl dX3_lays_83 ?_
                refine G.get hX inc_X3_lays_3 0 rfl rfl 0 (by decide) (by decide +kernel) rfl dX3_lays_84 ?_
                refine G.get hX inc_X3_lays_0 1 rfl rfl 3 (by decide) (by decide +kernel) rfl dX3_lays_87 ?_
                refine G.iload_n hX 4 rfl dX3_lays_90 ?_
                refine G.lload hX 0 rfl dX3_lays_91 ?_
                refine G.l2i hX dX3_lays_93 ?_
                refine G.iast hX (j := k) (ws' := [(ox 0, noO ox rr rk rt rb xt kp), (rr 0, avO rr (((it (cLyS nu) k (r, 0)).1).1) (((it (cLyS nu) k (r, 0)).1).2.1)), (rr 1, arI E 12 (((it (cLyS nu) k (r, 0)).1).2.2.1)), (rr 2, arI E 12 (upd (((it (cLyS nu) k (r, 0)).1).2.2.2.1) k ((nu k).toInt32))), (rr 3, arI E 12 (((it (cLyS nu) k (r, 0)).1).2.2.2.2.1)), (rr 4, arI E 96 (((it (cLyS nu) k (r, 0)).1).2.2.2.2.2)), (ox 2, arO E 4 (shF hs)), ((hs sh) 0, shO (hs sh) bt (nI z)), ((hs sh) 1, arJ E 40 nu)]) 3 rfl (by omega) (by omega) rfl rfl dX3_lays_94 ?_
                refine G.iinc hX (n := 1) (lv' := [(2, .int (nI (((it (cLyS nu) k (r, 0)).2) + 1))), (4, .long (nu k)), (0, .ref (ox 0)), (1, .int (nI sh)), (3, .int (nI k))]) 3 rfl (inc_nI ((it (cLyS nu) k (r, 0)).2) 1 rfl) (by decide) rfl dX3_lays_95 ?_
                refine G.lvp (lv' := [(0, .ref (ox 0)), (1, .int (nI sh)), (2, .int (nI (((it (cLyS nu) k (r, 0)).2) + 1))), (3, .int (nI k))]) [2, 3, 0, 4] rfl ?_
                refine G.lve (lv' := [(0, .ref (ox 0)), (1, .int (nI sh)), (2, .int (nI ((it (cLyS nu) (k + 1) (r, 0)).2))), (3, .int (nI k))]) (by simp only [it_s, cLyS, cLyB, av_aged, c22, c38, c51, c71, c80, decide_true, decide_false, Bool.not_true, Bool.not_false, Bool.and_true, Bool.true_and, Bool.and_false, Bool.false_and, ↓reduceIte, Bool.false_eq_true]) ?_
                refine G.we (ws' := [(ox 0, noO ox rr rk rt rb xt kp), (rr 0, avO rr (((it (cLyS nu) (k + 1) (r, 0)).1).1) (((it (cLyS nu) (k + 1) (r, 0)).1).2.1)), (rr 1, arI E 12 (((it (cLyS nu) (k + 1) (r, 0)).1).2.2.1)), (rr 2, arI E 12 (((it (cLyS nu) (k + 1) (r, 0)).1).2.2.2.1)), (rr 3, arI E 12 (((it (cLyS nu) (k + 1) (r, 0)).1).2.2.2.2.1)), (rr 4, arI E 96 (((it (cLyS nu) (k + 1) (r, 0)).1).2.2.2.2.2)), (ox 2, arO E 4 (shF hs)), ((hs sh) 0, shO (hs sh) bt (nI z)), ((hs sh) 1, arJ E 40 nu)]) (by simp only [it_s, cLyS, cLyB, av_aged, c22, c38, c51, c71, c80, decide_true, decide_false, Bool.not_true, Bool.not_false, Bool.and_true, Bool.true_and, Bool.and_false, Bool.false_and, ↓reduceIte, Bool.false_eq_true]) ?_
                exact J98
    refine G.lvp (lv' := [(0, .ref (ox 0)), (1, .int (nI sh)), (2, .int 0), (3, .int 0)]) [2, 3, 1, 0] rfl ?_
    refine G.lve (lv' := [(0, .ref (ox 0)), (1, .int (nI sh)), (2, .int (nI ((it (cLyS nu) 0 (r, 0)).2))), (3, .int (nI 0))]) (by rfl) ?_
    refine G.we (ws' := [(ox 0, noO ox rr rk rt rb xt kp), (rr 0, avO rr (((it (cLyS nu) 0 (r, 0)).1).1) (((it (cLyS nu) 0 (r, 0)).1).2.1)), (rr 1, arI E 12 (((it (cLyS nu) 0 (r, 0)).1).2.2.1)), (rr 2, arI E 12 (((it (cLyS nu) 0 (r, 0)).1).2.2.2.1)), (rr 3, arI E 12 (((it (cLyS nu) 0 (r, 0)).1).2.2.2.2.1)), (rr 4, arI E 96 (((it (cLyS nu) 0 (r, 0)).1).2.2.2.2.2)), (ox 2, arO E 4 (shF hs)), ((hs sh) 0, shO (hs sh) bt (nI z)), ((hs sh) 1, arJ E 40 nu)]) (by rfl) ?_
    exact L35 13 0 (by omega) (by omega) (by omega)
  · exact absurd (of_decide_eq_true c22) h2
abbrev rmX3_book : Room := { frames := 5, cells := 0, slots := 0, locals := 121 }
theorem cp_X3_book : CP yX3_book RX3 wsX3_book 4 2 rmX3_book := ⟨⟨_, _, _, rfl⟩, rfl, rfl, by decide +kernel⟩
theorem inc_X3_book_0 : ∀ w ∈ u_ws RX0 TX0 6, w ∈ wsX3_book := by decide +kernel
theorem inc_X3_book_3 : ∀ w ∈ u_ws RX3 TX3 9, w ∈ wsX3_book := by decide +kernel
theorem inc_X3_book_1 : ∀ w ∈ u_ws RX1 TX1 3, w ∈ wsX3_book := by decide +kernel
set_option maxHeartbeats 4000000 in
set_option maxRecDepth 100000 in
theorem c_X3_bookbad (l : Launch) (E : EV) (x : Int32) (y : Int32) (ox : Nat → Nat) (rr : Nat → Nat) (rk : Nat → Nat) (rt : Nat → Nat) (rb : Nat → Nat) (xt : Nat → Nat) (kp : Int32) (fo : Nat → Int32) (h1 : cIn 4 x = false) : CI l yX3_book wsX3_book rmX3_book E [.ref (ox 0), .int x, .int y] [(ox 0, noO ox rr rk rt rb xt kp), (ox 3, arI E 7 fo)] [(ox 0, noO ox rr rk rt rb xt kp), (ox 3, arI E 7 (upd fo 0 (fo 0 + 1)))] ((-1000000001)) := by
  refine CI.of (own := RX3) (cc := cX3_book) (nL := 4) (rt := (some .int)) (by decide) rfl rfl (Nat.le_of_ble_eq_true rfl) (fun X hX hQ => ?_)
  show G E X 4 0 [(0, .ref (ox 0)), (1, .int x), (2, .int y)] [] [(ox 0, noO ox rr rk rt rb xt kp), (ox 3, arI E 7 fo)]
  refine G.iload_n hX 1 rfl dX3_book_0 ?_
  refine G.s0i hX (As := [.int x]) (st := []) (c_X3_isSheet _ E (x := x) ) gX3_book_X3_isSheet cp_X3_isSheet (by decide) rfl rfl (Nat.le_of_ble_eq_true rfl) dX3_book_1 ?_
  refine G.b_ne hX (tgt := 13) (by decide) dX3_book_4 (fun c4 => ?_) (fun c4 => ?_)
  · exact absurd h1 (by simp [c4])
  · refine G.aload_n hX 0 rfl dX3_book_7 ?_
    refine G.iconst hX (v := 0) (by decide) dX3_book_8 ?_
    refine G.vi hX (As := [.int 0]) (st := []) (wr := []) (wf := [(ox 0, noO ox rr rk rt rb xt kp), (ox 3, arI E 7 (upd fo 0 (fo 0 + 1)))]) (q0 := 0) (ci := 3) rfl rfl (c_X3_finding0 _ E (ox := ox) (rr := rr) (rk := rk) (rt := rt) (rb := rb) (xt := xt) (kp := kp) (fo := fo) ) gX3_book_X3_finding cp_X3_finding (by decide) [0, 1] [] [0, 1] ⟨rfl, rfl, by decide, rfl⟩ rfl rfl (Nat.le_of_ble_eq_true rfl) dX3_book_9 ?_
    exact G.iret hX hQ dX3_book_12 (by rfl) (by rfl)
set_option maxHeartbeats 4000000 in
set_option maxRecDepth 100000 in
theorem c_X3_bookmis (l : Launch) (E : EV) (sh : Nat) (y : Int32) (hs : Nat → Nat → Nat) (ox : Nat → Nat) (rr : Nat → Nat) (rk : Nat → Nat) (rt : Nat → Nat) (rb : Nat → Nat) (xt : Nat → Nat) (kp : Int32) (bt : Int32) (sz : Int32) (nu : Nat → Int64) (fo : Nat → Int32) (h1 : sh < 4) (h2 : bt = 0) : CI l yX3_book wsX3_book rmX3_book E [.ref (ox 0), .int (nI sh), .int y] [(ox 0, noO ox rr rk rt rb xt kp), (ox 2, arO E 4 (shF hs)), ((hs sh) 0, shO (hs sh) bt sz), ((hs sh) 1, arJ E 40 nu), (ox 3, arI E 7 fo)] [(ox 0, noO ox rr rk rt rb xt kp), (ox 2, arO E 4 (shF hs)), ((hs sh) 0, shO (hs sh) bt sz), ((hs sh) 1, arJ E 40 nu), (ox 3, arI E 7 (upd fo 5 (fo 5 + 1)))] ((-1000000006)) := by
  refine CI.of (own := RX3) (cc := cX3_book) (nL := 4) (rt := (some .int)) (by decide) rfl rfl (Nat.le_of_ble_eq_true rfl) (fun X hX hQ => ?_)
  show G E X 4 0 [(0, .ref (ox 0)), (1, .int (nI sh)), (2, .int y)] [] [(ox 0, noO ox rr rk rt rb xt kp), (ox 2, arO E 4 (shF hs)), ((hs sh) 0, shO (hs sh) bt sz), ((hs sh) 1, arJ E 40 nu), (ox 3, arI E 7 fo)]
  refine G.iload_n hX 1 rfl dX3_book_0 ?_
  refine G.s0i hX (As := [.int (nI sh)]) (st := []) (c_X3_isSheetn _ E (x := sh) (h1 := by omega)) gX3_book_X3_isSheet cp_X3_isSheet (by decide) rfl rfl (Nat.le_of_ble_eq_true rfl) dX3_book_1 ?_
  refine G.if_ne hX (tgt := 13) (by decide) dX3_book_4 (fun _ => ?_) (fun c4 => absurd c4 (by decide))
  refine G.aload_n hX 0 rfl dX3_book_13 ?_
  refine G.get hX inc_X3_book_3 0 rfl rfl 6 (by decide) (by decide +kernel) rfl dX3_book_14 ?_
  refine G.iload_n hX 1 rfl dX3_book_17 ?_
  refine G.aald hX (j := sh) (v := .ref ((hs sh) 0)) 1 rfl (by omega) (by omega) (shF_at (by omega)) dX3_book_18 ?_
  refine G.vi hX (As := []) (st := []) (wr := [(ox 0, noO ox rr rk rt rb xt kp), (ox 2, arO E 4 (shF hs)), ((hs sh) 1, arJ E 40 nu), (ox 3, arI E 7 fo)]) (wf := [(ox 0, noO ox rr rk rt rb xt kp), (ox 2, arO E 4 (shF hs)), ((hs sh) 0, shO (hs sh) bt sz), ((hs sh) 1, arJ E 40 nu), (ox 3, arI E 7 fo)]) (q0 := 0) (ci := 1) rfl rfl (c_X1_isMissing _ E (a := hs sh) (bt := bt) (sz := sz) ) gX3_book_X1_isMissing cp_X1_isMissing (by decide) [2] [0, 1, 3, 4] [0, 1, 4, 2, 3] ⟨rfl, rfl, by decide, rfl⟩ rfl rfl (Nat.le_of_ble_eq_true rfl) dX3_book_19 ?_
  refine G.b_eq hX (tgt := 31) (by decide) dX3_book_22 (fun c22 => ?_) (fun c22 => ?_)
  · exact absurd h2 (of_decide_eq_false c22)
  · refine G.aload_n hX 0 rfl dX3_book_25 ?_
    refine G.iconst hX (v := 5) (by decide) dX3_book_26 ?_
    refine G.vi hX (As := [.int 5]) (st := []) (wr := [(ox 2, arO E 4 (shF hs)), ((hs sh) 0, shO (hs sh) bt sz), ((hs sh) 1, arJ E 40 nu)]) (wf := [(ox 0, noO ox rr rk rt rb xt kp), (ox 2, arO E 4 (shF hs)), ((hs sh) 0, shO (hs sh) bt sz), ((hs sh) 1, arJ E 40 nu), (ox 3, arI E 7 (upd fo 5 (fo 5 + 1)))]) (q0 := 0) (ci := 3) rfl rfl (c_X3_finding5 _ E (ox := ox) (rr := rr) (rk := rk) (rt := rt) (rb := rb) (xt := xt) (kp := kp) (fo := fo) ) gX3_book_X3_finding cp_X3_finding (by decide) [0, 4] [1, 2, 3] [3, 0, 1, 2, 4] ⟨rfl, rfl, by decide, rfl⟩ rfl rfl (Nat.le_of_ble_eq_true rfl) dX3_book_27 ?_
    exact G.iret hX hQ dX3_book_30 (by rfl) (by rfl)
set_option maxHeartbeats 4000000 in
set_option maxRecDepth 100000 in
theorem c_X3_bookbey (l : Launch) (E : EV) (sh : Nat) (y : Int32) (hs : Nat → Nat → Nat) (ox : Nat → Nat) (rr : Nat → Nat) (rk : Nat → Nat) (rt : Nat → Nat) (rb : Nat → Nat) (xt : Nat → Nat) (kp : Int32) (bt : Int32) (sz : Int32) (nu : Nat → Int64) (fo : Nat → Int32) (h1 : sh < 4) (h2 : ¬ bt = 0) (h3 : cIn 12 y = false) : CI l yX3_book wsX3_book rmX3_book E [.ref (ox 0), .int (nI sh), .int y] [(ox 0, noO ox rr rk rt rb xt kp), (ox 2, arO E 4 (shF hs)), ((hs sh) 0, shO (hs sh) bt sz), ((hs sh) 1, arJ E 40 nu), (ox 3, arI E 7 fo)] [(ox 0, noO ox rr rk rt rb xt kp), (ox 2, arO E 4 (shF hs)), ((hs sh) 0, shO (hs sh) bt sz), ((hs sh) 1, arJ E 40 nu), (ox 3, arI E 7 (upd fo 0 (fo 0 + 1)))] ((-1000000001)) := by
  refine CI.of (own := RX3) (cc := cX3_book) (nL := 4) (rt := (some .int)) (by decide) rfl rfl (Nat.le_of_ble_eq_true rfl) (fun X hX hQ => ?_)
  show G E X 4 0 [(0, .ref (ox 0)), (1, .int (nI sh)), (2, .int y)] [] [(ox 0, noO ox rr rk rt rb xt kp), (ox 2, arO E 4 (shF hs)), ((hs sh) 0, shO (hs sh) bt sz), ((hs sh) 1, arJ E 40 nu), (ox 3, arI E 7 fo)]
  refine G.iload_n hX 1 rfl dX3_book_0 ?_
  refine G.s0i hX (As := [.int (nI sh)]) (st := []) (c_X3_isSheetn _ E (x := sh) (h1 := by omega)) gX3_book_X3_isSheet cp_X3_isSheet (by decide) rfl rfl (Nat.le_of_ble_eq_true rfl) dX3_book_1 ?_
  refine G.if_ne hX (tgt := 13) (by decide) dX3_book_4 (fun _ => ?_) (fun c4 => absurd c4 (by decide))
  refine G.aload_n hX 0 rfl dX3_book_13 ?_
  refine G.get hX inc_X3_book_3 0 rfl rfl 6 (by decide) (by decide +kernel) rfl dX3_book_14 ?_
  refine G.iload_n hX 1 rfl dX3_book_17 ?_
  refine G.aald hX (j := sh) (v := .ref ((hs sh) 0)) 1 rfl (by omega) (by omega) (shF_at (by omega)) dX3_book_18 ?_
  refine G.vi hX (As := []) (st := []) (wr := [(ox 0, noO ox rr rk rt rb xt kp), (ox 2, arO E 4 (shF hs)), ((hs sh) 1, arJ E 40 nu), (ox 3, arI E 7 fo)]) (wf := [(ox 0, noO ox rr rk rt rb xt kp), (ox 2, arO E 4 (shF hs)), ((hs sh) 0, shO (hs sh) bt sz), ((hs sh) 1, arJ E 40 nu), (ox 3, arI E 7 fo)]) (q0 := 0) (ci := 1) rfl rfl (c_X1_isMissing _ E (a := hs sh) (bt := bt) (sz := sz) ) gX3_book_X1_isMissing cp_X1_isMissing (by decide) [2] [0, 1, 3, 4] [0, 1, 4, 2, 3] ⟨rfl, rfl, by decide, rfl⟩ rfl rfl (Nat.le_of_ble_eq_true rfl) dX3_book_19 ?_
  refine G.b_eq hX (tgt := 31) (by decide) dX3_book_22 (fun c22 => ?_) (fun c22 => ?_)
  · refine G.iload_n hX 2 rfl dX3_book_31 ?_
    refine G.s0i hX (As := [.int y]) (st := []) (c_X3_isTree _ E (x := y) ) gX3_book_X3_isTree cp_X3_isTree (by decide) rfl rfl (Nat.le_of_ble_eq_true rfl) dX3_book_32 ?_
    refine G.b_ne hX (tgt := 44) (by decide) dX3_book_35 (fun c35 => ?_) (fun c35 => ?_)
    · exact absurd h3 (by simp [c22, c35])
    · refine G.aload_n hX 0 rfl dX3_book_38 ?_
      refine G.iconst hX (v := 0) (by decide) dX3_book_39 ?_
      refine G.vi hX (As := [.int 0]) (st := []) (wr := [(ox 2, arO E 4 (shF hs)), ((hs sh) 0, shO (hs sh) bt sz), ((hs sh) 1, arJ E 40 nu)]) (wf := [(ox 0, noO ox rr rk rt rb xt kp), (ox 2, arO E 4 (shF hs)), ((hs sh) 0, shO (hs sh) bt sz), ((hs sh) 1, arJ E 40 nu), (ox 3, arI E 7 (upd fo 0 (fo 0 + 1)))]) (q0 := 0) (ci := 3) rfl rfl (c_X3_finding0 _ E (ox := ox) (rr := rr) (rk := rk) (rt := rt) (rb := rb) (xt := xt) (kp := kp) (fo := fo) ) gX3_book_X3_finding cp_X3_finding (by decide) [0, 4] [1, 2, 3] [3, 0, 1, 2, 4] ⟨rfl, rfl, by decide, rfl⟩ rfl rfl (Nat.le_of_ble_eq_true rfl) dX3_book_40 ?_
      exact G.iret hX hQ dX3_book_43 (by rfl) (by rfl)
  · exact absurd (of_decide_eq_true c22) h2
set_option maxHeartbeats 4000000 in
set_option maxRecDepth 100000 in
theorem c_X3_bookok (l : Launch) (E : EV) (sh : Nat) (t : Nat) (z : Nat) (r : AV) (tr : AV) (hs : Nat → Nat → Nat) (ox : Nat → Nat) (rr : Nat → Nat) (rk : Nat → Nat) (rt : Nat → Nat) (rb : Nat → Nat) (xt : Nat → Nat) (kp : Int32) (bt : Int32) (nu : Nat → Int64) (h1 : sh < 4) (h2 : ¬ bt = 0) (h3 : t < 12) (h4 : z ≤ 40) : CI l yX3_book wsX3_book rmX3_book E [.ref (ox 0), .int (nI sh), .int (nI t)] [(ox 0, noO ox rr rk rt rb xt kp), (rr 0, avO rr r.1 r.2.1), (rr 1, arI E 12 r.2.2.1), (rr 2, arI E 12 r.2.2.2.1), (rr 3, arI E 12 r.2.2.2.2.1), (rr 4, arI E 96 r.2.2.2.2.2), (rt 0, avO rt tr.1 tr.2.1), (rt 1, arI E 12 tr.2.2.1), (rt 2, arI E 12 tr.2.2.2.1), (rt 3, arI E 12 tr.2.2.2.2.1), (rt 4, arI E 96 tr.2.2.2.2.2), (ox 2, arO E 4 (shF hs)), ((hs sh) 0, shO (hs sh) bt (nI z)), ((hs sh) 1, arJ E 40 nu)] [(ox 0, noO ox rr rk rt rb xt kp), (rr 0, avO rr r.1 r.2.1), (rr 1, arI E 12 r.2.2.1), (rr 2, arI E 12 r.2.2.2.1), (rr 3, arI E 12 r.2.2.2.2.1), (rr 4, arI E 96 r.2.2.2.2.2), (rt 0, avO rt ((av_ys 255 z r).1) ((av_ys 255 z r).2.1)), (rt 1, arI E 12 ((av_ys 255 z r).2.2.1)), (rt 2, arI E 12 ((av_ys 255 z r).2.2.2.1)), (rt 3, arI E 12 ((av_ys 255 z r).2.2.2.2.1)), (rt 4, arI E 96 ((av_ys 255 z r).2.2.2.2.2)), (ox 2, arO E 4 (shF hs)), ((hs sh) 0, shO (hs sh) bt (nI z)), ((hs sh) 1, arJ E 40 (cpL z (cBkF bt r t) nu))] (nI z) := by
  refine CI.of (own := RX3) (cc := cX3_book) (nL := 4) (rt := (some .int)) (by decide) rfl rfl (Nat.le_of_ble_eq_true rfl) (fun X hX hQ => ?_)
  show G E X 4 0 [(0, .ref (ox 0)), (1, .int (nI sh)), (2, .int (nI t))] [] [(ox 0, noO ox rr rk rt rb xt kp), (rr 0, avO rr r.1 r.2.1), (rr 1, arI E 12 r.2.2.1), (rr 2, arI E 12 r.2.2.2.1), (rr 3, arI E 12 r.2.2.2.2.1), (rr 4, arI E 96 r.2.2.2.2.2), (rt 0, avO rt tr.1 tr.2.1), (rt 1, arI E 12 tr.2.2.1), (rt 2, arI E 12 tr.2.2.2.1), (rt 3, arI E 12 tr.2.2.2.2.1), (rt 4, arI E 96 tr.2.2.2.2.2), (ox 2, arO E 4 (shF hs)), ((hs sh) 0, shO (hs sh) bt (nI z)), ((hs sh) 1, arJ E 40 nu)]
  refine G.iload_n hX 1 rfl dX3_book_0 ?_
  refine G.s0i hX (As := [.int (nI sh)]) (st := []) (c_X3_isSheetn _ E (x := sh) (h1 := by omega)) gX3_book_X3_isSheet cp_X3_isSheet (by decide) rfl rfl (Nat.le_of_ble_eq_true rfl) dX3_book_1 ?_
  refine G.if_ne hX (tgt := 13) (by decide) dX3_book_4 (fun _ => ?_) (fun c4 => absurd c4 (by decide))
  refine G.aload_n hX 0 rfl dX3_book_13 ?_
  refine G.get hX inc_X3_book_3 0 rfl rfl 6 (by decide) (by decide +kernel) rfl dX3_book_14 ?_
  refine G.iload_n hX 1 rfl dX3_book_17 ?_
  refine G.aald hX (j := sh) (v := .ref ((hs sh) 0)) 11 rfl (by omega) (by omega) (shF_at (by omega)) dX3_book_18 ?_
  refine G.vi hX (As := []) (st := []) (wr := [(ox 0, noO ox rr rk rt rb xt kp), (rr 0, avO rr r.1 r.2.1), (rr 1, arI E 12 r.2.2.1), (rr 2, arI E 12 r.2.2.2.1), (rr 3, arI E 12 r.2.2.2.2.1), (rr 4, arI E 96 r.2.2.2.2.2), (rt 0, avO rt tr.1 tr.2.1), (rt 1, arI E 12 tr.2.2.1), (rt 2, arI E 12 tr.2.2.2.1), (rt 3, arI E 12 tr.2.2.2.2.1), (rt 4, arI E 96 tr.2.2.2.2.2), (ox 2, arO E 4 (shF hs)), ((hs sh) 1, arJ E 40 nu)]) (wf := [(ox 0, noO ox rr rk rt rb xt kp), (rr 0, avO rr r.1 r.2.1), (rr 1, arI E 12 r.2.2.1), (rr 2, arI E 12 r.2.2.2.1), (rr 3, arI E 12 r.2.2.2.2.1), (rr 4, arI E 96 r.2.2.2.2.2), (rt 0, avO rt tr.1 tr.2.1), (rt 1, arI E 12 tr.2.2.1), (rt 2, arI E 12 tr.2.2.2.1), (rt 3, arI E 12 tr.2.2.2.2.1), (rt 4, arI E 96 tr.2.2.2.2.2), (ox 2, arO E 4 (shF hs)), ((hs sh) 0, shO (hs sh) bt (nI z)), ((hs sh) 1, arJ E 40 nu)]) (q0 := 0) (ci := 1) rfl rfl (c_X1_isMissing _ E (a := hs sh) (bt := bt) (sz := nI z) ) gX3_book_X1_isMissing cp_X1_isMissing (by decide) [12] [0, 1, 2, 3, 4, 5, 6, 7, 8, 9, 10, 11, 13] [0, 1, 2, 3, 4, 5, 6, 7, 8, 9, 10, 11, 13, 12] ⟨rfl, rfl, by decide, rfl⟩ rfl rfl (Nat.le_of_ble_eq_true rfl) dX3_book_19 ?_
  refine G.b_eq hX (tgt := 31) (by decide) dX3_book_22 (fun c22 => ?_) (fun c22 => ?_)
  · refine G.iload_n hX 2 rfl dX3_book_31 ?_
    refine G.s0i hX (As := [.int (nI t)]) (st := []) (c_X3_isTreen _ E (x := t) (h1 := by omega)) gX3_book_X3_isTree cp_X3_isTree (by decide) rfl rfl (Nat.le_of_ble_eq_true rfl) dX3_book_32 ?_
    refine G.if_ne hX (tgt := 44) (by decide) dX3_book_35 (fun _ => ?_) (fun c35 => absurd c35 (by decide))
    refine G.aload_n hX 0 rfl dX3_book_44 ?_
    refine G.vv hX (As := []) (st := []) (wr := [(ox 2, arO E 4 (shF hs)), ((hs sh) 0, shO (hs sh) bt (nI z)), ((hs sh) 1, arJ E 40 nu)]) (wf := [(ox 0, noO ox rr rk rt rb xt kp), (rr 0, avO rr r.1 r.2.1), (rr 1, arI E 12 r.2.2.1), (rr 2, arI E 12 r.2.2.2.1), (rr 3, arI E 12 r.2.2.2.2.1), (rr 4, arI E 96 r.2.2.2.2.2), (rt 0, avO rt r.1 r.2.1), (rt 1, arI E 12 r.2.2.1), (rt 2, arI E 12 r.2.2.2.1), (rt 3, arI E 12 r.2.2.2.2.1), (rt 4, arI E 96 r.2.2.2.2.2), (ox 2, arO E 4 (shF hs)), ((hs sh) 0, shO (hs sh) bt (nI z)), ((hs sh) 1, arJ E 40 nu)]) (q0 := 0) (ci := 3) rfl rfl (c_X3_suppose _ E (r := r) (tr := tr) (ox := ox) (rr := rr) (rk := rk) (rt := rt) (rb := rb) (xt := xt) (kp := kp) ) gX3_book_X3_suppose cp_X3_suppose (by decide) [0, 1, 2, 3, 4, 5, 6, 7, 8, 9, 10] [11, 12, 13] [3, 4, 5, 6, 7, 8, 9, 10, 11, 12, 13, 0, 1, 2] ⟨rfl, rfl, by decide, rfl⟩ rfl rfl (Nat.le_of_ble_eq_true rfl) dX3_book_45 ?_
    refine G.iconst hX (v := 0) (by decide) dX3_book_48 ?_
    refine G.istore_n hX (lv' := [(3, .int 0), (0, .ref (ox 0)), (1, .int (nI sh)), (2, .int (nI t))]) rfl (by decide) rfl dX3_book_49 ?_
    have L50 : ∀ (n : Nat) (k : Nat), k ≤ z → z + 1 ≤ k + n → G E X 4 50 [(0, .ref (ox 0)), (1, .int (nI sh)), (2, .int (nI t)), (3, .int (nI k))] [] [(ox 0, noO ox rr rk rt rb xt kp), (rr 0, avO rr r.1 r.2.1), (rr 1, arI E 12 r.2.2.1), (rr 2, arI E 12 r.2.2.2.1), (rr 3, arI E 12 r.2.2.2.2.1), (rr 4, arI E 96 r.2.2.2.2.2), (rt 0, avO rt ((av_ys 255 k r).1) ((av_ys 255 k r).2.1)), (rt 1, arI E 12 ((av_ys 255 k r).2.2.1)), (rt 2, arI E 12 ((av_ys 255 k r).2.2.2.1)), (rt 3, arI E 12 ((av_ys 255 k r).2.2.2.2.1)), (rt 4, arI E 96 ((av_ys 255 k r).2.2.2.2.2)), (ox 2, arO E 4 (shF hs)), ((hs sh) 0, shO (hs sh) bt (nI z)), ((hs sh) 1, arJ E 40 (cpL k (cBkF bt r t) nu))] := by
      intro n
      induction n with
      | zero => intro k hl50_0 hl50_1; exact absurd hl50_1 (by omega)
      | succ n ih50 =>
        intro k hl50_0 hl50_1
        refine G.iload_n hX 3 rfl dX3_book_50 ?_
        refine G.aload_n hX 0 rfl dX3_book_51 ?_
        refine G.get hX inc_X3_book_3 0 rfl rfl 6 (by decide) (by decide +kernel) rfl dX3_book_52 ?_
        refine G.iload_n hX 1 rfl dX3_book_55 ?_
        refine G.aald hX (j := sh) (v := .ref ((hs sh) 0)) 11 rfl (by omega) (by omega) (shF_at (by omega)) dX3_book_56 ?_
        refine G.get hX inc_X3_book_1 12 rfl rfl 1 (by decide) (by decide +kernel) rfl dX3_book_57 ?_
        refine G.n_ge hX (a := k) (b := z) (tgt := 97) (by omega) (by omega) (by decide) dX3_book_60 (fun c60 => ?_) (fun c60 => ?_)
        · obtain rfl : z = k := by omega
          refine G.aload_n hX 0 rfl dX3_book_97 ?_
          refine G.get hX inc_X3_book_3 0 rfl rfl 6 (by decide) (by decide +kernel) rfl dX3_book_98 ?_
          refine G.iload_n hX 1 rfl dX3_book_101 ?_
          refine G.aald hX (j := sh) (v := .ref ((hs sh) 0)) 11 rfl (by omega) (by omega) (shF_at (by omega)) dX3_book_102 ?_
          refine G.get hX inc_X3_book_1 12 rfl rfl 1 (by decide) (by decide +kernel) rfl dX3_book_103 ?_
          exact G.iret hX hQ dX3_book_106 (by rfl) (by rfl)
        · refine G.aload_n hX 0 rfl dX3_book_63 ?_
          refine G.get hX inc_X3_book_3 0 rfl rfl 6 (by decide) (by decide +kernel) rfl dX3_book_64 ?_
          refine G.iload_n hX 1 rfl dX3_book_67 ?_
          refine G.aald hX (j := sh) (v := .ref ((hs sh) 0)) 11 rfl (by omega) (by omega) (shF_at (by omega)) dX3_book_68 ?_
          refine G.iload_n hX 3 rfl dX3_book_69 ?_
          refine G.aload_n hX 0 rfl dX3_book_70 ?_
          refine G.get hX inc_X3_book_3 0 rfl rfl 2 (by decide) (by decide +kernel) rfl dX3_book_71 ?_
          refine G.get hX inc_X3_book_0 6 rfl rfl 4 (by decide) (by decide +kernel) rfl dX3_book_74 ?_
          refine G.iload_n hX 2 rfl dX3_book_77 ?_
          refine G.iald hX (j := t) 9 rfl (by omega) (by omega) dX3_book_78 ?_
          refine G.i2l hX dX3_book_79 ?_
          refine G.vv hX (As := [.int (nI k), .long ((((av_ys 255 k r).2.2.2.2.1) t).toInt64)]) (st := []) (wr := [(ox 0, noO ox rr rk rt rb xt kp), (rr 0, avO rr r.1 r.2.1), (rr 1, arI E 12 r.2.2.1), (rr 2, arI E 12 r.2.2.2.1), (rr 3, arI E 12 r.2.2.2.2.1), (rr 4, arI E 96 r.2.2.2.2.2), (rt 0, avO rt ((av_ys 255 k r).1) ((av_ys 255 k r).2.1)), (rt 1, arI E 12 ((av_ys 255 k r).2.2.1)), (rt 2, arI E 12 ((av_ys 255 k r).2.2.2.1)), (rt 3, arI E 12 ((av_ys 255 k r).2.2.2.2.1)), (rt 4, arI E 96 ((av_ys 255 k r).2.2.2.2.2)), (ox 2, arO E 4 (shF hs))]) (wf := [(ox 0, noO ox rr rk rt rb xt kp), (rr 0, avO rr r.1 r.2.1), (rr 1, arI E 12 r.2.2.1), (rr 2, arI E 12 r.2.2.2.1), (rr 3, arI E 12 r.2.2.2.2.1), (rr 4, arI E 96 r.2.2.2.2.2), (rt 0, avO rt ((av_ys 255 k r).1) ((av_ys 255 k r).2.1)), (rt 1, arI E 12 ((av_ys 255 k r).2.2.1)), (rt 2, arI E 12 ((av_ys 255 k r).2.2.2.1)), (rt 3, arI E 12 ((av_ys 255 k r).2.2.2.2.1)), (rt 4, arI E 96 ((av_ys 255 k r).2.2.2.2.2)), (ox 2, arO E 4 (shF hs)), ((hs sh) 0, shO (hs sh) bt (nI z)), ((hs sh) 1, arJ E 40 (vp_updL (cpL k (cBkF bt r t) nu) k (nrw bt ((((av_ys 255 k r).2.2.2.2.1) t).toInt64))))]) (q0 := 0) (ci := 1) rfl rfl (c_X1_put _ E (i := k) (v := (((av_ys 255 k r).2.2.2.2.1) t).toInt64) (a := hs sh) (bt := bt) (sz := nI z) (nu := cpL k (cBkF bt r t) nu) (h1 := by omega)) gX3_book_X1_put cp_X1_put (by decide) [12, 13] [0, 1, 2, 3, 4, 5, 6, 7, 8, 9, 10, 11] [0, 1, 2, 3, 4, 5, 6, 7, 8, 9, 10, 11, 12, 13] ⟨rfl, rfl, by decide, rfl⟩ rfl rfl (Nat.le_of_ble_eq_true rfl) dX3_book_80 ?_
          refine G.aload_n hX 0 rfl dX3_book_83 ?_
          refine G.get hX inc_X3_book_3 0 rfl rfl 2 (by decide) (by decide +kernel) rfl dX3_book_84 ?_
          refine G.iconst hX (v := 1) (by decide) dX3_book_87 ?_
          refine G.vv hX (As := [.int 1]) (st := []) (wr := [(ox 0, noO ox rr rk rt rb xt kp), (rr 0, avO rr r.1 r.2.1), (rr 1, arI E 12 r.2.2.1), (rr 2, arI E 12 r.2.2.2.1), (rr 3, arI E 12 r.2.2.2.2.1), (rr 4, arI E 96 r.2.2.2.2.2), (ox 2, arO E 4 (shF hs)), ((hs sh) 0, shO (hs sh) bt (nI z)), ((hs sh) 1, arJ E 40 (vp_updL (cpL k (cBkF bt r t) nu) k (nrw bt ((((av_ys 255 k r).2.2.2.2.1) t).toInt64))))]) (wf := [(ox 0, noO ox rr rk rt rb xt kp), (rr 0, avO rr r.1 r.2.1), (rr 1, arI E 12 r.2.2.1), (rr 2, arI E 12 r.2.2.2.1), (rr 3, arI E 12 r.2.2.2.2.1), (rr 4, arI E 96 r.2.2.2.2.2), (rt 0, avO rt ((av_ys 255 1 (av_ys 255 k r)).1) ((av_ys 255 1 (av_ys 255 k r)).2.1)), (rt 1, arI E 12 ((av_ys 255 1 (av_ys 255 k r)).2.2.1)), (rt 2, arI E 12 ((av_ys 255 1 (av_ys 255 k r)).2.2.2.1)), (rt 3, arI E 12 ((av_ys 255 1 (av_ys 255 k r)).2.2.2.2.1)), (rt 4, arI E 96 ((av_ys 255 1 (av_ys 255 k r)).2.2.2.2.2)), (ox 2, arO E 4 (shF hs)), ((hs sh) 0, shO (hs sh) bt (nI z)), ((hs sh) 1, arJ E 40 (vp_updL (cpL k (cBkF bt r t) nu) k (nrw bt ((((av_ys 255 k r).2.2.2.2.1) t).toInt64))))]) (q0 := 0) (ci := 0) rfl rfl (c_X0_passYears _ E (q := av_ys 255 k r) (n0 := 1) (a := rt) (h1 := by omega)) gX3_book_X0_passYears cp_X0_passYears (by decide) [6, 7, 8, 9, 10] [0, 1, 2, 3, 4, 5, 11, 12, 13] [0, 1, 2, 3, 4, 5, 9, 10, 11, 12, 13, 6, 7, 8] ⟨rfl, rfl, by decide, rfl⟩ rfl rfl (Nat.le_of_ble_eq_true rfl) dX3_book_88 ?_
          refine G.iinc hX (n := 1) (lv' := [(3, .int (nI (k + 1))), (0, .ref (ox 0)), (1, .int (nI sh)), (2, .int (nI t))]) 3 rfl (inc_nI k 1 rfl) (by decide) rfl dX3_book_91 ?_
          refine G.goto hX (tgt := 50) (by decide) dX3_book_94 ?_
          refine G.lvp (lv' := [(0, .ref (ox 0)), (1, .int (nI sh)), (2, .int (nI t)), (3, .int (nI (k + 1)))]) [1, 2, 3, 0] rfl ?_
          refine G.lve (lv' := [(0, .ref (ox 0)), (1, .int (nI sh)), (2, .int (nI t)), (3, .int (nI ((k + 1))))]) (by rfl) ?_
          refine G.we (ws' := [(ox 0, noO ox rr rk rt rb xt kp), (rr 0, avO rr r.1 r.2.1), (rr 1, arI E 12 r.2.2.1), (rr 2, arI E 12 r.2.2.2.1), (rr 3, arI E 12 r.2.2.2.2.1), (rr 4, arI E 96 r.2.2.2.2.2), (rt 0, avO rt ((av_ys 255 (k + 1) r).1) ((av_ys 255 (k + 1) r).2.1)), (rt 1, arI E 12 ((av_ys 255 (k + 1) r).2.2.1)), (rt 2, arI E 12 ((av_ys 255 (k + 1) r).2.2.2.1)), (rt 3, arI E 12 ((av_ys 255 (k + 1) r).2.2.2.2.1)), (rt 4, arI E 96 ((av_ys 255 (k + 1) r).2.2.2.2.2)), (ox 2, arO E 4 (shF hs)), ((hs sh) 0, shO (hs sh) bt (nI z)), ((hs sh) 1, arJ E 40 (cpL (k + 1) (cBkF bt r t) nu))]) (by rw [← cpL_s]; rfl) ?_
          exact ih50 (k + 1) (by omega) (by omega)
    refine G.lvp (lv' := [(0, .ref (ox 0)), (1, .int (nI sh)), (2, .int (nI t)), (3, .int 0)]) [1, 2, 3, 0] rfl ?_
    refine G.lve (lv' := [(0, .ref (ox 0)), (1, .int (nI sh)), (2, .int (nI t)), (3, .int (nI 0))]) (by rfl) ?_
    refine G.we (ws' := [(ox 0, noO ox rr rk rt rb xt kp), (rr 0, avO rr r.1 r.2.1), (rr 1, arI E 12 r.2.2.1), (rr 2, arI E 12 r.2.2.2.1), (rr 3, arI E 12 r.2.2.2.2.1), (rr 4, arI E 96 r.2.2.2.2.2), (rt 0, avO rt ((av_ys 255 0 r).1) ((av_ys 255 0 r).2.1)), (rt 1, arI E 12 ((av_ys 255 0 r).2.2.1)), (rt 2, arI E 12 ((av_ys 255 0 r).2.2.2.1)), (rt 3, arI E 12 ((av_ys 255 0 r).2.2.2.2.1)), (rt 4, arI E 96 ((av_ys 255 0 r).2.2.2.2.2)), (ox 2, arO E 4 (shF hs)), ((hs sh) 0, shO (hs sh) bt (nI z)), ((hs sh) 1, arJ E 40 (cpL 0 (cBkF bt r t) nu))]) (by rw [cpL_0]; rfl) ?_
    exact L50 (z + 1) 0 (by omega) (by omega)
  · exact absurd (of_decide_eq_true c22) h2
abbrev rmX3_goesAsWritten : Room := { frames := 5, cells := 0, slots := 0, locals := 118 }
theorem cp_X3_goesAsWritten : CP yX3_goesAsWritten RX3 wsX3_goesAsWritten 4 2 rmX3_goesAsWritten := ⟨⟨_, _, _, rfl⟩, rfl, rfl, by decide +kernel⟩
theorem inc_X3_goesAsWritten_0 : ∀ w ∈ u_ws RX0 TX0 6, w ∈ wsX3_goesAsWritten := by decide +kernel
theorem inc_X3_goesAsWritten_3 : ∀ w ∈ u_ws RX3 TX3 9, w ∈ wsX3_goesAsWritten := by decide +kernel
theorem inc_X3_goesAsWritten_1 : ∀ w ∈ u_ws RX1 TX1 3, w ∈ wsX3_goesAsWritten := by decide +kernel
set_option maxHeartbeats 4000000 in
set_option maxRecDepth 100000 in
theorem c_X3_goesAsWritten (l : Launch) (E : EV) (t : Nat) (z : Nat) (tr : AV) (ox : Nat → Nat) (rr : Nat → Nat) (rk : Nat → Nat) (rt : Nat → Nat) (rb : Nat → Nat) (xt : Nat → Nat) (a : Nat → Nat) (kp : Int32) (bt : Int32) (nu : Nat → Int64) (h1 : t < 12) (h2 : z ≤ 40) : CI l yX3_goesAsWritten wsX3_goesAsWritten rmX3_goesAsWritten E [.ref (ox 0), .ref (a 0), .int (nI t)] [(ox 0, noO ox rr rk rt rb xt kp), (rt 0, avO rt tr.1 tr.2.1), (rt 1, arI E 12 tr.2.2.1), (rt 2, arI E 12 tr.2.2.2.1), (rt 3, arI E 12 tr.2.2.2.2.1), (rt 4, arI E 96 tr.2.2.2.2.2), (a 0, shO a bt (nI z)), (a 1, arJ E 40 nu)] [(ox 0, noO ox rr rk rt rb xt kp), (rt 0, avO rt ((av_ys 255 (cRd nu z tr t) tr).1) ((av_ys 255 (cRd nu z tr t) tr).2.1)), (rt 1, arI E 12 ((av_ys 255 (cRd nu z tr t) tr).2.2.1)), (rt 2, arI E 12 ((av_ys 255 (cRd nu z tr t) tr).2.2.2.1)), (rt 3, arI E 12 ((av_ys 255 (cRd nu z tr t) tr).2.2.2.2.1)), (rt 4, arI E 96 ((av_ys 255 (cRd nu z tr t) tr).2.2.2.2.2)), (a 0, shO a bt (nI z)), (a 1, arJ E 40 nu)] (bI (decide (z ≤ cRd nu z tr t))) := by
  refine CI.of (own := RX3) (cc := cX3_goesAsWritten) (nL := 4) (rt := (some .boolean)) (by decide) rfl rfl (Nat.le_of_ble_eq_true rfl) (fun X hX hQ => ?_)
  show G E X 4 0 [(0, .ref (ox 0)), (1, .ref (a 0)), (2, .int (nI t))] [] [(ox 0, noO ox rr rk rt rb xt kp), (rt 0, avO rt tr.1 tr.2.1), (rt 1, arI E 12 tr.2.2.1), (rt 2, arI E 12 tr.2.2.2.1), (rt 3, arI E 12 tr.2.2.2.2.1), (rt 4, arI E 96 tr.2.2.2.2.2), (a 0, shO a bt (nI z)), (a 1, arJ E 40 nu)]
  refine G.iconst hX (v := 0) (by decide) dX3_goesAsWritten_0 ?_
  refine G.istore_n hX (lv' := [(3, .int 0), (0, .ref (ox 0)), (1, .ref (a 0)), (2, .int (nI t))]) rfl (by decide) rfl dX3_goesAsWritten_1 ?_
  have L2 : ∀ (n : Nat) (k : Nat), k ≤ z → cRd nu z tr t = ff (cRdP nu tr t) (z - k) k → z + 1 ≤ k + n → G E X 4 2 [(0, .ref (ox 0)), (1, .ref (a 0)), (2, .int (nI t)), (3, .int (nI k))] [] [(ox 0, noO ox rr rk rt rb xt kp), (rt 0, avO rt ((av_ys 255 k tr).1) ((av_ys 255 k tr).2.1)), (rt 1, arI E 12 ((av_ys 255 k tr).2.2.1)), (rt 2, arI E 12 ((av_ys 255 k tr).2.2.2.1)), (rt 3, arI E 12 ((av_ys 255 k tr).2.2.2.2.1)), (rt 4, arI E 96 ((av_ys 255 k tr).2.2.2.2.2)), (a 0, shO a bt (nI z)), (a 1, arJ E 40 nu)] := by
    intro n
    induction n with
    | zero => intro k hl2_0 hl2_1 hl2_2; exact absurd hl2_2 (by omega)
    | succ n ih2 =>
      intro k hl2_0 hl2_1 hl2_2
      refine G.iload_n hX 3 rfl dX3_goesAsWritten_2 ?_
      refine G.aload_n hX 1 rfl dX3_goesAsWritten_3 ?_
      refine G.get hX inc_X3_goesAsWritten_1 6 rfl rfl 1 (by decide) (by decide +kernel) rfl dX3_goesAsWritten_4 ?_
      refine G.n_ge hX (a := k) (b := z) (tgt := 46) (by omega) (by omega) (by decide) dX3_goesAsWritten_7 (fun c7 => ?_) (fun c7 => ?_)
      · refine G.iconst hX (v := 1) (by decide) dX3_goesAsWritten_46 ?_
        exact G.zret hX hQ rfl dX3_goesAsWritten_47 (by have er : cRd nu z tr t = k := (by first | (rw [hl2_1]; exact ff_t (by omega) (by simp [cRdP, c7])) | (obtain rfl : k = z := (by omega); rw [hl2_1, Nat.sub_self]; rfl)); rw [er]; first | rfl | (simp [bI]; done) | (simp [bI]; omega)) (by have er : cRd nu z tr t = k := (by first | (rw [hl2_1]; exact ff_t (by omega) (by simp [cRdP, c7])) | (obtain rfl : k = z := (by omega); rw [hl2_1, Nat.sub_self]; rfl)); rw [er])
      · refine G.aload_n hX 1 rfl dX3_goesAsWritten_10 ?_
        refine G.get hX inc_X3_goesAsWritten_1 6 rfl rfl 2 (by decide) (by decide +kernel) rfl dX3_goesAsWritten_11 ?_
        refine G.iload_n hX 3 rfl dX3_goesAsWritten_14 ?_
        refine G.lald hX (j := k) 7 rfl (by omega) (by omega) dX3_goesAsWritten_15 ?_
        refine G.aload_n hX 0 rfl dX3_goesAsWritten_16 ?_
        refine G.get hX inc_X3_goesAsWritten_3 0 rfl rfl 2 (by decide) (by decide +kernel) rfl dX3_goesAsWritten_17 ?_
        refine G.get hX inc_X3_goesAsWritten_0 1 rfl rfl 4 (by decide) (by decide +kernel) rfl dX3_goesAsWritten_20 ?_
        refine G.iload_n hX 2 rfl dX3_goesAsWritten_23 ?_
        refine G.iald hX (j := t) 4 rfl (by omega) (by omega) dX3_goesAsWritten_24 ?_
        refine G.i2l hX dX3_goesAsWritten_25 ?_
        refine G.lcmp hX dX3_goesAsWritten_26 ?_
        refine G.c_eq hX (tgt := 32) (by decide) dX3_goesAsWritten_27 (fun c27 => ?_) (fun c27 => ?_)
        · refine G.aload_n hX 0 rfl dX3_goesAsWritten_32 ?_
          refine G.get hX inc_X3_goesAsWritten_3 0 rfl rfl 2 (by decide) (by decide +kernel) rfl dX3_goesAsWritten_33 ?_
          refine G.iconst hX (v := 1) (by decide) dX3_goesAsWritten_36 ?_
          refine G.vv hX (As := [.int 1]) (st := []) (wr := [(ox 0, noO ox rr rk rt rb xt kp), (a 0, shO a bt (nI z)), (a 1, arJ E 40 nu)]) (wf := [(ox 0, noO ox rr rk rt rb xt kp), (rt 0, avO rt ((av_ys 255 1 (av_ys 255 k tr)).1) ((av_ys 255 1 (av_ys 255 k tr)).2.1)), (rt 1, arI E 12 ((av_ys 255 1 (av_ys 255 k tr)).2.2.1)), (rt 2, arI E 12 ((av_ys 255 1 (av_ys 255 k tr)).2.2.2.1)), (rt 3, arI E 12 ((av_ys 255 1 (av_ys 255 k tr)).2.2.2.2.1)), (rt 4, arI E 96 ((av_ys 255 1 (av_ys 255 k tr)).2.2.2.2.2)), (a 0, shO a bt (nI z)), (a 1, arJ E 40 nu)]) (q0 := 0) (ci := 0) rfl rfl (c_X0_passYears _ E (q := av_ys 255 k tr) (n0 := 1) (a := rt) (h1 := by omega)) gX3_goesAsWritten_X0_passYears cp_X0_passYears (by decide) [1, 2, 3, 4, 5] [0, 6, 7] [0, 3, 4, 5, 6, 7, 1, 2] ⟨rfl, rfl, by decide, rfl⟩ rfl rfl (Nat.le_of_ble_eq_true rfl) dX3_goesAsWritten_37 ?_
          refine G.iinc hX (n := 1) (lv' := [(3, .int (nI (k + 1))), (0, .ref (ox 0)), (1, .ref (a 0)), (2, .int (nI t))]) 3 rfl (inc_nI k 1 rfl) (by decide) rfl dX3_goesAsWritten_40 ?_
          refine G.goto hX (tgt := 2) (by decide) dX3_goesAsWritten_43 ?_
          refine G.lvp (lv' := [(0, .ref (ox 0)), (1, .ref (a 0)), (2, .int (nI t)), (3, .int (nI (k + 1)))]) [1, 2, 3, 0] rfl ?_
          refine G.lve (lv' := [(0, .ref (ox 0)), (1, .ref (a 0)), (2, .int (nI t)), (3, .int (nI ((k + 1))))]) (by rfl) ?_
          refine G.we (ws' := [(ox 0, noO ox rr rk rt rb xt kp), (rt 0, avO rt ((av_ys 255 (k + 1) tr).1) ((av_ys 255 (k + 1) tr).2.1)), (rt 1, arI E 12 ((av_ys 255 (k + 1) tr).2.2.1)), (rt 2, arI E 12 ((av_ys 255 (k + 1) tr).2.2.2.1)), (rt 3, arI E 12 ((av_ys 255 (k + 1) tr).2.2.2.2.1)), (rt 4, arI E 96 ((av_ys 255 (k + 1) tr).2.2.2.2.2)), (a 0, shO a bt (nI z)), (a 1, arJ E 40 nu)]) (by rfl) ?_
          exact ih2 (k + 1) (by omega) (by rw [hl2_1]; exact ff_f (by omega) (by simp [cRdP, c7, c27])) (by omega)
        · refine G.iconst hX (v := 0) (by decide) dX3_goesAsWritten_30 ?_
          exact G.zret hX hQ rfl dX3_goesAsWritten_31 (by have er : cRd nu z tr t = k := (by first | (rw [hl2_1]; exact ff_t (by omega) (by simp [cRdP, c7, c27])) | (obtain rfl : k = z := (by omega); rw [hl2_1, Nat.sub_self]; rfl)); rw [er]; first | rfl | (simp [bI]; done) | (simp [bI]; omega)) (by have er : cRd nu z tr t = k := (by first | (rw [hl2_1]; exact ff_t (by omega) (by simp [cRdP, c7, c27])) | (obtain rfl : k = z := (by omega); rw [hl2_1, Nat.sub_self]; rfl)); rw [er])
  refine G.lvp (lv' := [(0, .ref (ox 0)), (1, .ref (a 0)), (2, .int (nI t)), (3, .int 0)]) [1, 2, 3, 0] rfl ?_
  refine G.lve (lv' := [(0, .ref (ox 0)), (1, .ref (a 0)), (2, .int (nI t)), (3, .int (nI 0))]) (by rfl) ?_
  refine G.we (ws' := [(ox 0, noO ox rr rk rt rb xt kp), (rt 0, avO rt ((av_ys 255 0 tr).1) ((av_ys 255 0 tr).2.1)), (rt 1, arI E 12 ((av_ys 255 0 tr).2.2.1)), (rt 2, arI E 12 ((av_ys 255 0 tr).2.2.2.1)), (rt 3, arI E 12 ((av_ys 255 0 tr).2.2.2.2.1)), (rt 4, arI E 96 ((av_ys 255 0 tr).2.2.2.2.2)), (a 0, shO a bt (nI z)), (a 1, arJ E 40 nu)]) (by rfl) ?_
  exact L2 (z + 1) 0 (by omega) rfl (by omega)
abbrev rmX3_read : Room := { frames := 6, cells := 0, slots := 0, locals := 141 }
theorem cp_X3_read : CP yX3_read RX3 wsX3_read 7 3 rmX3_read := ⟨⟨_, _, _, rfl⟩, rfl, rfl, by decide +kernel⟩
theorem inc_X3_read_0 : ∀ w ∈ u_ws RX0 TX0 6, w ∈ wsX3_read := by decide +kernel
theorem inc_X3_read_3 : ∀ w ∈ u_ws RX3 TX3 9, w ∈ wsX3_read := by decide +kernel
set_option maxHeartbeats 4000000 in
set_option maxRecDepth 100000 in
theorem c_X3_readbad (l : Launch) (E : EV) (x : Int32) (y : Int32) (w : Int32) (ox : Nat → Nat) (rr : Nat → Nat) (rk : Nat → Nat) (rt : Nat → Nat) (rb : Nat → Nat) (xt : Nat → Nat) (kp : Int32) (fo : Nat → Int32) (h1 : cIn 4 x = false) : CI l yX3_read wsX3_read rmX3_read E [.ref (ox 0), .int x, .int y, .int w] [(ox 0, noO ox rr rk rt rb xt kp), (ox 3, arI E 7 fo)] [(ox 0, noO ox rr rk rt rb xt kp), (ox 3, arI E 7 (upd fo 0 (fo 0 + 1)))] ((-1000000001)) := by
  refine CI.of (own := RX3) (cc := cX3_read) (nL := 7) (rt := (some .int)) (by decide) rfl rfl (Nat.le_of_ble_eq_true rfl) (fun X hX hQ => ?_)
  show G E X 7 0 [(0, .ref (ox 0)), (1, .int x), (2, .int y), (3, .int w)] [] [(ox 0, noO ox rr rk rt rb xt kp), (ox 3, arI E 7 fo)]
  refine G.iload_n hX 1 rfl dX3_read_0 ?_
  refine G.s0i hX (As := [.int x]) (st := []) (c_X3_isSheet _ E (x := x) ) gX3_read_X3_isSheet cp_X3_isSheet (by decide) rfl rfl (Nat.le_of_ble_eq_true rfl) dX3_read_1 ?_
  refine G.b_ne hX (tgt := 13) (by decide) dX3_read_4 (fun c4 => ?_) (fun c4 => ?_)
  · exact absurd h1 (by simp [c4])
  · refine G.aload_n hX 0 rfl dX3_read_7 ?_
    refine G.iconst hX (v := 0) (by decide) dX3_read_8 ?_
    refine G.vi hX (As := [.int 0]) (st := []) (wr := []) (wf := [(ox 0, noO ox rr rk rt rb xt kp), (ox 3, arI E 7 (upd fo 0 (fo 0 + 1)))]) (q0 := 0) (ci := 3) rfl rfl (c_X3_finding0 _ E (ox := ox) (rr := rr) (rk := rk) (rt := rt) (rb := rb) (xt := xt) (kp := kp) (fo := fo) ) gX3_read_X3_finding cp_X3_finding (by decide) [0, 1] [] [0, 1] ⟨rfl, rfl, by decide, rfl⟩ rfl rfl (Nat.le_of_ble_eq_true rfl) dX3_read_9 ?_
    exact G.iret hX hQ dX3_read_12 (by rfl) (by rfl)
set_option maxHeartbeats 4000000 in
set_option maxRecDepth 100000 in
theorem c_X3_readmis (l : Launch) (E : EV) (sh : Nat) (y : Int32) (w : Int32) (hs : Nat → Nat → Nat) (ox : Nat → Nat) (rr : Nat → Nat) (rk : Nat → Nat) (rt : Nat → Nat) (rb : Nat → Nat) (xt : Nat → Nat) (kp : Int32) (bt : Int32) (sz : Int32) (nu : Nat → Int64) (fo : Nat → Int32) (h1 : sh < 4) (h2 : bt = 0) : CI l yX3_read wsX3_read rmX3_read E [.ref (ox 0), .int (nI sh), .int y, .int w] [(ox 0, noO ox rr rk rt rb xt kp), (ox 2, arO E 4 (shF hs)), ((hs sh) 0, shO (hs sh) bt sz), ((hs sh) 1, arJ E 40 nu), (ox 3, arI E 7 fo)] [(ox 0, noO ox rr rk rt rb xt kp), (ox 2, arO E 4 (shF hs)), ((hs sh) 0, shO (hs sh) bt sz), ((hs sh) 1, arJ E 40 nu), (ox 3, arI E 7 (upd fo 5 (fo 5 + 1)))] ((-1000000006)) := by
  refine CI.of (own := RX3) (cc := cX3_read) (nL := 7) (rt := (some .int)) (by decide) rfl rfl (Nat.le_of_ble_eq_true rfl) (fun X hX hQ => ?_)
  show G E X 7 0 [(0, .ref (ox 0)), (1, .int (nI sh)), (2, .int y), (3, .int w)] [] [(ox 0, noO ox rr rk rt rb xt kp), (ox 2, arO E 4 (shF hs)), ((hs sh) 0, shO (hs sh) bt sz), ((hs sh) 1, arJ E 40 nu), (ox 3, arI E 7 fo)]
  refine G.iload_n hX 1 rfl dX3_read_0 ?_
  refine G.s0i hX (As := [.int (nI sh)]) (st := []) (c_X3_isSheetn _ E (x := sh) (h1 := by omega)) gX3_read_X3_isSheet cp_X3_isSheet (by decide) rfl rfl (Nat.le_of_ble_eq_true rfl) dX3_read_1 ?_
  refine G.if_ne hX (tgt := 13) (by decide) dX3_read_4 (fun _ => ?_) (fun c4 => absurd c4 (by decide))
  refine G.aload_n hX 0 rfl dX3_read_13 ?_
  refine G.get hX inc_X3_read_3 0 rfl rfl 6 (by decide) (by decide +kernel) rfl dX3_read_14 ?_
  refine G.iload_n hX 1 rfl dX3_read_17 ?_
  refine G.aald hX (j := sh) (v := .ref ((hs sh) 0)) 1 rfl (by omega) (by omega) (shF_at (by omega)) dX3_read_18 ?_
  refine G.vi hX (As := []) (st := []) (wr := [(ox 0, noO ox rr rk rt rb xt kp), (ox 2, arO E 4 (shF hs)), ((hs sh) 1, arJ E 40 nu), (ox 3, arI E 7 fo)]) (wf := [(ox 0, noO ox rr rk rt rb xt kp), (ox 2, arO E 4 (shF hs)), ((hs sh) 0, shO (hs sh) bt sz), ((hs sh) 1, arJ E 40 nu), (ox 3, arI E 7 fo)]) (q0 := 0) (ci := 1) rfl rfl (c_X1_isMissing _ E (a := hs sh) (bt := bt) (sz := sz) ) gX3_read_X1_isMissing cp_X1_isMissing (by decide) [2] [0, 1, 3, 4] [0, 1, 4, 2, 3] ⟨rfl, rfl, by decide, rfl⟩ rfl rfl (Nat.le_of_ble_eq_true rfl) dX3_read_19 ?_
  refine G.b_eq hX (tgt := 31) (by decide) dX3_read_22 (fun c22 => ?_) (fun c22 => ?_)
  · exact absurd h2 (of_decide_eq_false c22)
  · refine G.aload_n hX 0 rfl dX3_read_25 ?_
    refine G.iconst hX (v := 5) (by decide) dX3_read_26 ?_
    refine G.vi hX (As := [.int 5]) (st := []) (wr := [(ox 2, arO E 4 (shF hs)), ((hs sh) 0, shO (hs sh) bt sz), ((hs sh) 1, arJ E 40 nu)]) (wf := [(ox 0, noO ox rr rk rt rb xt kp), (ox 2, arO E 4 (shF hs)), ((hs sh) 0, shO (hs sh) bt sz), ((hs sh) 1, arJ E 40 nu), (ox 3, arI E 7 (upd fo 5 (fo 5 + 1)))]) (q0 := 0) (ci := 3) rfl rfl (c_X3_finding5 _ E (ox := ox) (rr := rr) (rk := rk) (rt := rt) (rb := rb) (xt := xt) (kp := kp) (fo := fo) ) gX3_read_X3_finding cp_X3_finding (by decide) [0, 4] [1, 2, 3] [3, 0, 1, 2, 4] ⟨rfl, rfl, by decide, rfl⟩ rfl rfl (Nat.le_of_ble_eq_true rfl) dX3_read_27 ?_
    exact G.iret hX hQ dX3_read_30 (by rfl) (by rfl)
set_option maxHeartbeats 4000000 in
set_option maxRecDepth 100000 in
theorem c_X3_readbey (l : Launch) (E : EV) (sh : Nat) (y : Int32) (w : Int32) (hs : Nat → Nat → Nat) (ox : Nat → Nat) (rr : Nat → Nat) (rk : Nat → Nat) (rt : Nat → Nat) (rb : Nat → Nat) (xt : Nat → Nat) (kp : Int32) (bt : Int32) (sz : Int32) (nu : Nat → Int64) (fo : Nat → Int32) (h1 : sh < 4) (h2 : ¬ bt = 0) (h3 : (cIn 12 y && (cIn 12 w && !(decide (y = w)))) = false) : CI l yX3_read wsX3_read rmX3_read E [.ref (ox 0), .int (nI sh), .int y, .int w] [(ox 0, noO ox rr rk rt rb xt kp), (ox 2, arO E 4 (shF hs)), ((hs sh) 0, shO (hs sh) bt sz), ((hs sh) 1, arJ E 40 nu), (ox 3, arI E 7 fo)] [(ox 0, noO ox rr rk rt rb xt kp), (ox 2, arO E 4 (shF hs)), ((hs sh) 0, shO (hs sh) bt sz), ((hs sh) 1, arJ E 40 nu), (ox 3, arI E 7 (upd fo 0 (fo 0 + 1)))] ((-1000000001)) := by
  refine CI.of (own := RX3) (cc := cX3_read) (nL := 7) (rt := (some .int)) (by decide) rfl rfl (Nat.le_of_ble_eq_true rfl) (fun X hX hQ => ?_)
  show G E X 7 0 [(0, .ref (ox 0)), (1, .int (nI sh)), (2, .int y), (3, .int w)] [] [(ox 0, noO ox rr rk rt rb xt kp), (ox 2, arO E 4 (shF hs)), ((hs sh) 0, shO (hs sh) bt sz), ((hs sh) 1, arJ E 40 nu), (ox 3, arI E 7 fo)]
  refine G.iload_n hX 1 rfl dX3_read_0 ?_
  refine G.s0i hX (As := [.int (nI sh)]) (st := []) (c_X3_isSheetn _ E (x := sh) (h1 := by omega)) gX3_read_X3_isSheet cp_X3_isSheet (by decide) rfl rfl (Nat.le_of_ble_eq_true rfl) dX3_read_1 ?_
  refine G.if_ne hX (tgt := 13) (by decide) dX3_read_4 (fun _ => ?_) (fun c4 => absurd c4 (by decide))
  refine G.aload_n hX 0 rfl dX3_read_13 ?_
  refine G.get hX inc_X3_read_3 0 rfl rfl 6 (by decide) (by decide +kernel) rfl dX3_read_14 ?_
  refine G.iload_n hX 1 rfl dX3_read_17 ?_
  refine G.aald hX (j := sh) (v := .ref ((hs sh) 0)) 1 rfl (by omega) (by omega) (shF_at (by omega)) dX3_read_18 ?_
  refine G.vi hX (As := []) (st := []) (wr := [(ox 0, noO ox rr rk rt rb xt kp), (ox 2, arO E 4 (shF hs)), ((hs sh) 1, arJ E 40 nu), (ox 3, arI E 7 fo)]) (wf := [(ox 0, noO ox rr rk rt rb xt kp), (ox 2, arO E 4 (shF hs)), ((hs sh) 0, shO (hs sh) bt sz), ((hs sh) 1, arJ E 40 nu), (ox 3, arI E 7 fo)]) (q0 := 0) (ci := 1) rfl rfl (c_X1_isMissing _ E (a := hs sh) (bt := bt) (sz := sz) ) gX3_read_X1_isMissing cp_X1_isMissing (by decide) [2] [0, 1, 3, 4] [0, 1, 4, 2, 3] ⟨rfl, rfl, by decide, rfl⟩ rfl rfl (Nat.le_of_ble_eq_true rfl) dX3_read_19 ?_
  refine G.b_eq hX (tgt := 31) (by decide) dX3_read_22 (fun c22 => ?_) (fun c22 => ?_)
  · refine G.iload_n hX 2 rfl dX3_read_31 ?_
    refine G.s0i hX (As := [.int y]) (st := []) (c_X3_isTree _ E (x := y) ) gX3_read_X3_isTree cp_X3_isTree (by decide) rfl rfl (Nat.le_of_ble_eq_true rfl) dX3_read_32 ?_
    refine G.b_eq hX (tgt := 50) (by decide) dX3_read_35 (fun c35 => ?_) (fun c35 => ?_)
    · refine G.aload_n hX 0 rfl dX3_read_50 ?_
      refine G.iconst hX (v := 0) (by decide) dX3_read_51 ?_
      refine G.vi hX (As := [.int 0]) (st := []) (wr := [(ox 2, arO E 4 (shF hs)), ((hs sh) 0, shO (hs sh) bt sz), ((hs sh) 1, arJ E 40 nu)]) (wf := [(ox 0, noO ox rr rk rt rb xt kp), (ox 2, arO E 4 (shF hs)), ((hs sh) 0, shO (hs sh) bt sz), ((hs sh) 1, arJ E 40 nu), (ox 3, arI E 7 (upd fo 0 (fo 0 + 1)))]) (q0 := 0) (ci := 3) rfl rfl (c_X3_finding0 _ E (ox := ox) (rr := rr) (rk := rk) (rt := rt) (rb := rb) (xt := xt) (kp := kp) (fo := fo) ) gX3_read_X3_finding cp_X3_finding (by decide) [0, 4] [1, 2, 3] [3, 0, 1, 2, 4] ⟨rfl, rfl, by decide, rfl⟩ rfl rfl (Nat.le_of_ble_eq_true rfl) dX3_read_52 ?_
      exact G.iret hX hQ dX3_read_55 (by rfl) (by rfl)
    · refine G.iload_n hX 3 rfl dX3_read_38 ?_
      refine G.s0i hX (As := [.int w]) (st := []) (c_X3_isTree _ E (x := w) ) gX3_read_X3_isTree cp_X3_isTree (by decide) rfl rfl (Nat.le_of_ble_eq_true rfl) dX3_read_39 ?_
      refine G.b_eq hX (tgt := 50) (by decide) dX3_read_42 (fun c42 => ?_) (fun c42 => ?_)
      · refine G.aload_n hX 0 rfl dX3_read_50 ?_
        refine G.iconst hX (v := 0) (by decide) dX3_read_51 ?_
        refine G.vi hX (As := [.int 0]) (st := []) (wr := [(ox 2, arO E 4 (shF hs)), ((hs sh) 0, shO (hs sh) bt sz), ((hs sh) 1, arJ E 40 nu)]) (wf := [(ox 0, noO ox rr rk rt rb xt kp), (ox 2, arO E 4 (shF hs)), ((hs sh) 0, shO (hs sh) bt sz), ((hs sh) 1, arJ E 40 nu), (ox 3, arI E 7 (upd fo 0 (fo 0 + 1)))]) (q0 := 0) (ci := 3) rfl rfl (c_X3_finding0 _ E (ox := ox) (rr := rr) (rk := rk) (rt := rt) (rb := rb) (xt := xt) (kp := kp) (fo := fo) ) gX3_read_X3_finding cp_X3_finding (by decide) [0, 4] [1, 2, 3] [3, 0, 1, 2, 4] ⟨rfl, rfl, by decide, rfl⟩ rfl rfl (Nat.le_of_ble_eq_true rfl) dX3_read_52 ?_
        exact G.iret hX hQ dX3_read_55 (by rfl) (by rfl)
      · refine G.iload_n hX 2 rfl dX3_read_45 ?_
        refine G.iload_n hX 3 rfl dX3_read_46 ?_
        refine G.icmp_ne hX (tgt := 56) (by decide) dX3_read_47 (fun c47 => ?_) (fun c47 => ?_)
        · exact absurd h3 (by simp [c22, c35, c42, c47])
        · refine G.aload_n hX 0 rfl dX3_read_50 ?_
          refine G.iconst hX (v := 0) (by decide) dX3_read_51 ?_
          refine G.vi hX (As := [.int 0]) (st := []) (wr := [(ox 2, arO E 4 (shF hs)), ((hs sh) 0, shO (hs sh) bt sz), ((hs sh) 1, arJ E 40 nu)]) (wf := [(ox 0, noO ox rr rk rt rb xt kp), (ox 2, arO E 4 (shF hs)), ((hs sh) 0, shO (hs sh) bt sz), ((hs sh) 1, arJ E 40 nu), (ox 3, arI E 7 (upd fo 0 (fo 0 + 1)))]) (q0 := 0) (ci := 3) rfl rfl (c_X3_finding0 _ E (ox := ox) (rr := rr) (rk := rk) (rt := rt) (rb := rb) (xt := xt) (kp := kp) (fo := fo) ) gX3_read_X3_finding cp_X3_finding (by decide) [0, 4] [1, 2, 3] [3, 0, 1, 2, 4] ⟨rfl, rfl, by decide, rfl⟩ rfl rfl (Nat.le_of_ble_eq_true rfl) dX3_read_52 ?_
          exact G.iret hX hQ dX3_read_55 (by rfl) (by rfl)
  · exact absurd (of_decide_eq_true c22) h2
set_option maxHeartbeats 4000000 in
set_option maxRecDepth 100000 in
theorem c_X3_readok (l : Launch) (E : EV) (sh : Nat) (t : Nat) (u : Nat) (z : Nat) (r : AV) (tr : AV) (hs : Nat → Nat → Nat) (ox : Nat → Nat) (rr : Nat → Nat) (rk : Nat → Nat) (rt : Nat → Nat) (rb : Nat → Nat) (xt : Nat → Nat) (kp : Int32) (bt : Int32) (nu : Nat → Int64) (h1 : sh < 4) (h2 : ¬ bt = 0) (h3 : t < 12) (h4 : u < 12) (h5 : t ≠ u) (h6 : z ≤ 40) : CI l yX3_read wsX3_read rmX3_read E [.ref (ox 0), .int (nI sh), .int (nI t), .int (nI u)] [(ox 0, noO ox rr rk rt rb xt kp), (rr 0, avO rr r.1 r.2.1), (rr 1, arI E 12 r.2.2.1), (rr 2, arI E 12 r.2.2.2.1), (rr 3, arI E 12 r.2.2.2.2.1), (rr 4, arI E 96 r.2.2.2.2.2), (rt 0, avO rt tr.1 tr.2.1), (rt 1, arI E 12 tr.2.2.1), (rt 2, arI E 12 tr.2.2.2.1), (rt 3, arI E 12 tr.2.2.2.2.1), (rt 4, arI E 96 tr.2.2.2.2.2), (ox 2, arO E 4 (shF hs)), ((hs sh) 0, shO (hs sh) bt (nI z)), ((hs sh) 1, arJ E 40 nu)] [(ox 0, noO ox rr rk rt rb xt kp), (rr 0, avO rr r.1 r.2.1), (rr 1, arI E 12 r.2.2.1), (rr 2, arI E 12 r.2.2.2.1), (rr 3, arI E 12 r.2.2.2.2.1), (rr 4, arI E 96 r.2.2.2.2.2), (rt 0, avO rt (((it (cRdO nu z r t u) 6 (0, tr)).2).1) (((it (cRdO nu z r t u) 6 (0, tr)).2).2.1)), (rt 1, arI E 12 (((it (cRdO nu z r t u) 6 (0, tr)).2).2.2.1)), (rt 2, arI E 12 (((it (cRdO nu z r t u) 6 (0, tr)).2).2.2.2.1)), (rt 3, arI E 12 (((it (cRdO nu z r t u) 6 (0, tr)).2).2.2.2.2.1)), (rt 4, arI E 96 (((it (cRdO nu z r t u) 6 (0, tr)).2).2.2.2.2.2)), (ox 2, arO E 4 (shF hs)), ((hs sh) 0, shO (hs sh) bt (nI z)), ((hs sh) 1, arJ E 40 nu)] (nI ((it (cRdO nu z r t u) 6 (0, tr)).1)) := by
  refine CI.of (own := RX3) (cc := cX3_read) (nL := 7) (rt := (some .int)) (by decide) rfl rfl (Nat.le_of_ble_eq_true rfl) (fun X hX hQ => ?_)
  show G E X 7 0 [(0, .ref (ox 0)), (1, .int (nI sh)), (2, .int (nI t)), (3, .int (nI u))] [] [(ox 0, noO ox rr rk rt rb xt kp), (rr 0, avO rr r.1 r.2.1), (rr 1, arI E 12 r.2.2.1), (rr 2, arI E 12 r.2.2.2.1), (rr 3, arI E 12 r.2.2.2.2.1), (rr 4, arI E 96 r.2.2.2.2.2), (rt 0, avO rt tr.1 tr.2.1), (rt 1, arI E 12 tr.2.2.1), (rt 2, arI E 12 tr.2.2.2.1), (rt 3, arI E 12 tr.2.2.2.2.1), (rt 4, arI E 96 tr.2.2.2.2.2), (ox 2, arO E 4 (shF hs)), ((hs sh) 0, shO (hs sh) bt (nI z)), ((hs sh) 1, arJ E 40 nu)]
  refine G.iload_n hX 1 rfl dX3_read_0 ?_
  refine G.s0i hX (As := [.int (nI sh)]) (st := []) (c_X3_isSheetn _ E (x := sh) (h1 := by omega)) gX3_read_X3_isSheet cp_X3_isSheet (by decide) rfl rfl (Nat.le_of_ble_eq_true rfl) dX3_read_1 ?_
  refine G.if_ne hX (tgt := 13) (by decide) dX3_read_4 (fun _ => ?_) (fun c4 => absurd c4 (by decide))
  refine G.aload_n hX 0 rfl dX3_read_13 ?_
  refine G.get hX inc_X3_read_3 0 rfl rfl 6 (by decide) (by decide +kernel) rfl dX3_read_14 ?_
  refine G.iload_n hX 1 rfl dX3_read_17 ?_
  refine G.aald hX (j := sh) (v := .ref ((hs sh) 0)) 11 rfl (by omega) (by omega) (shF_at (by omega)) dX3_read_18 ?_
  refine G.vi hX (As := []) (st := []) (wr := [(ox 0, noO ox rr rk rt rb xt kp), (rr 0, avO rr r.1 r.2.1), (rr 1, arI E 12 r.2.2.1), (rr 2, arI E 12 r.2.2.2.1), (rr 3, arI E 12 r.2.2.2.2.1), (rr 4, arI E 96 r.2.2.2.2.2), (rt 0, avO rt tr.1 tr.2.1), (rt 1, arI E 12 tr.2.2.1), (rt 2, arI E 12 tr.2.2.2.1), (rt 3, arI E 12 tr.2.2.2.2.1), (rt 4, arI E 96 tr.2.2.2.2.2), (ox 2, arO E 4 (shF hs)), ((hs sh) 1, arJ E 40 nu)]) (wf := [(ox 0, noO ox rr rk rt rb xt kp), (rr 0, avO rr r.1 r.2.1), (rr 1, arI E 12 r.2.2.1), (rr 2, arI E 12 r.2.2.2.1), (rr 3, arI E 12 r.2.2.2.2.1), (rr 4, arI E 96 r.2.2.2.2.2), (rt 0, avO rt tr.1 tr.2.1), (rt 1, arI E 12 tr.2.2.1), (rt 2, arI E 12 tr.2.2.2.1), (rt 3, arI E 12 tr.2.2.2.2.1), (rt 4, arI E 96 tr.2.2.2.2.2), (ox 2, arO E 4 (shF hs)), ((hs sh) 0, shO (hs sh) bt (nI z)), ((hs sh) 1, arJ E 40 nu)]) (q0 := 0) (ci := 1) rfl rfl (c_X1_isMissing _ E (a := hs sh) (bt := bt) (sz := nI z) ) gX3_read_X1_isMissing cp_X1_isMissing (by decide) [12] [0, 1, 2, 3, 4, 5, 6, 7, 8, 9, 10, 11, 13] [0, 1, 2, 3, 4, 5, 6, 7, 8, 9, 10, 11, 13, 12] ⟨rfl, rfl, by decide, rfl⟩ rfl rfl (Nat.le_of_ble_eq_true rfl) dX3_read_19 ?_
  refine G.b_eq hX (tgt := 31) (by decide) dX3_read_22 (fun c22 => ?_) (fun c22 => ?_)
  · refine G.iload_n hX 2 rfl dX3_read_31 ?_
    refine G.s0i hX (As := [.int (nI t)]) (st := []) (c_X3_isTreen _ E (x := t) (h1 := by omega)) gX3_read_X3_isTree cp_X3_isTree (by decide) rfl rfl (Nat.le_of_ble_eq_true rfl) dX3_read_32 ?_
    refine G.if_eq hX (tgt := 50) (by decide) dX3_read_35 (fun c35 => absurd c35 (by decide)) (fun _ => ?_)
    refine G.iload_n hX 3 rfl dX3_read_38 ?_
    refine G.s0i hX (As := [.int (nI u)]) (st := []) (c_X3_isTreen _ E (x := u) (h1 := by omega)) gX3_read_X3_isTree cp_X3_isTree (by decide) rfl rfl (Nat.le_of_ble_eq_true rfl) dX3_read_39 ?_
    refine G.if_eq hX (tgt := 50) (by decide) dX3_read_42 (fun c42 => absurd c42 (by decide)) (fun _ => ?_)
    refine G.iload_n hX 2 rfl dX3_read_45 ?_
    refine G.iload_n hX 3 rfl dX3_read_46 ?_
    refine G.n_ne hX (a := t) (b := u) (tgt := 56) (by omega) (by omega) (by decide) dX3_read_47 (fun c47 => ?_) (fun c47 => ?_)
    · refine G.iconst hX (v := 0) (by decide) dX3_read_56 ?_
      refine G.istore hX (lv' := [(4, .int 0), (0, .ref (ox 0)), (1, .int (nI sh)), (2, .int (nI t)), (3, .int (nI u))]) (by decide) rfl dX3_read_57 ?_
      refine G.iconst hX (v := 0) (by decide) dX3_read_59 ?_
      refine G.istore hX (lv' := [(5, .int 0), (4, .int 0), (0, .ref (ox 0)), (1, .int (nI sh)), (2, .int (nI t)), (3, .int (nI u))]) (by decide) rfl dX3_read_60 ?_
      have L62 : ∀ (n : Nat) (k1 : Nat), k1 ≤ 6 → 7 ≤ k1 + n → G E X 7 62 [(0, .ref (ox 0)), (1, .int (nI sh)), (2, .int (nI t)), (3, .int (nI u)), (4, .int (nI ((it (cRdO nu z r t u) k1 (0, tr)).1))), (5, .int (nI k1))] [] [(ox 0, noO ox rr rk rt rb xt kp), (rr 0, avO rr r.1 r.2.1), (rr 1, arI E 12 r.2.2.1), (rr 2, arI E 12 r.2.2.2.1), (rr 3, arI E 12 r.2.2.2.2.1), (rr 4, arI E 96 r.2.2.2.2.2), (rt 0, avO rt (((it (cRdO nu z r t u) k1 (0, tr)).2).1) (((it (cRdO nu z r t u) k1 (0, tr)).2).2.1)), (rt 1, arI E 12 (((it (cRdO nu z r t u) k1 (0, tr)).2).2.2.1)), (rt 2, arI E 12 (((it (cRdO nu z r t u) k1 (0, tr)).2).2.2.2.1)), (rt 3, arI E 12 (((it (cRdO nu z r t u) k1 (0, tr)).2).2.2.2.2.1)), (rt 4, arI E 96 (((it (cRdO nu z r t u) k1 (0, tr)).2).2.2.2.2.2)), (ox 2, arO E 4 (shF hs)), ((hs sh) 0, shO (hs sh) bt (nI z)), ((hs sh) 1, arJ E 40 nu)] := by
        intro n
        induction n with
        | zero => intro k1 hl62_0 hl62_1; exact absurd hl62_1 (by omega)
        | succ n ih62 =>
          intro k1 hl62_0 hl62_1
          refine G.iload hX 5 rfl dX3_read_62 ?_
          refine G.bipush hX (v := 6) (by decide) dX3_read_64 ?_
          refine G.n_ge hX (a := k1) (b := 6) (tgt := 134) (by omega) (by omega) (by decide) dX3_read_66 (fun c66 => ?_) (fun c66 => ?_)
          · refine G.iload hX 4 rfl dX3_read_134 ?_
            exact G.iret hX hQ dX3_read_136 (by obtain rfl : k1 = 6 := (by omega); rfl) (by obtain rfl : k1 = 6 := (by omega); rfl)
          · refine G.iconst hX (v := 0) (by decide) dX3_read_69 ?_
            refine G.istore hX (lv' := [(6, .int 0), (0, .ref (ox 0)), (1, .int (nI sh)), (2, .int (nI t)), (3, .int (nI u)), (4, .int (nI ((it (cRdO nu z r t u) k1 (0, tr)).1))), (5, .int (nI k1))]) (by decide) rfl dX3_read_70 ?_
            have L72 : ∀ (n : Nat) (k2 : Nat), k2 ≤ 6 → 7 ≤ k2 + n → G E X 7 72 [(0, .ref (ox 0)), (1, .int (nI sh)), (2, .int (nI t)), (3, .int (nI u)), (4, .int (nI ((it (cRdS nu z r t u k1) k2 (it (cRdO nu z r t u) k1 (0, tr))).1))), (5, .int (nI k1)), (6, .int (nI k2))] [] [(ox 0, noO ox rr rk rt rb xt kp), (rr 0, avO rr r.1 r.2.1), (rr 1, arI E 12 r.2.2.1), (rr 2, arI E 12 r.2.2.2.1), (rr 3, arI E 12 r.2.2.2.2.1), (rr 4, arI E 96 r.2.2.2.2.2), (rt 0, avO rt (((it (cRdS nu z r t u k1) k2 (it (cRdO nu z r t u) k1 (0, tr))).2).1) (((it (cRdS nu z r t u k1) k2 (it (cRdO nu z r t u) k1 (0, tr))).2).2.1)), (rt 1, arI E 12 (((it (cRdS nu z r t u k1) k2 (it (cRdO nu z r t u) k1 (0, tr))).2).2.2.1)), (rt 2, arI E 12 (((it (cRdS nu z r t u k1) k2 (it (cRdO nu z r t u) k1 (0, tr))).2).2.2.2.1)), (rt 3, arI E 12 (((it (cRdS nu z r t u k1) k2 (it (cRdO nu z r t u) k1 (0, tr))).2).2.2.2.2.1)), (rt 4, arI E 96 (((it (cRdS nu z r t u k1) k2 (it (cRdO nu z r t u) k1 (0, tr))).2).2.2.2.2.2)), (ox 2, arO E 4 (shF hs)), ((hs sh) 0, shO (hs sh) bt (nI z)), ((hs sh) 1, arJ E 40 nu)] := by
              intro n
              induction n with
              | zero => intro k2 hl72_0 hl72_1; exact absurd hl72_1 (by omega)
              | succ n ih72 =>
                intro k2 hl72_0 hl72_1
                refine G.iload hX 6 rfl dX3_read_72 ?_
                refine G.bipush hX (v := 6) (by decide) dX3_read_74 ?_
                refine G.n_ge hX (a := k2) (b := 6) (tgt := 128) (by omega) (by omega) (by decide) dX3_read_76 (fun c76 => ?_) (fun c76 => ?_)
                · obtain rfl : k2 = 6 := by omega
                  refine G.lve (lv' := [(0, .ref (ox 0)), (1, .int (nI sh)), (2, .int (nI t)), (3, .int (nI u)), (4, .int (nI ((it (cRdO nu z r t u) (k1 + 1) (0, tr)).1))), (5, .int (nI k1)), (6, .int (nI 6))]) (by rw [it_s (cRdO nu z r t u) k1, cRdO]) ?_
                  refine G.we (ws' := [(ox 0, noO ox rr rk rt rb xt kp), (rr 0, avO rr r.1 r.2.1), (rr 1, arI E 12 r.2.2.1), (rr 2, arI E 12 r.2.2.2.1), (rr 3, arI E 12 r.2.2.2.2.1), (rr 4, arI E 96 r.2.2.2.2.2), (rt 0, avO rt (((it (cRdO nu z r t u) (k1 + 1) (0, tr)).2).1) (((it (cRdO nu z r t u) (k1 + 1) (0, tr)).2).2.1)), (rt 1, arI E 12 (((it (cRdO nu z r t u) (k1 + 1) (0, tr)).2).2.2.1)), (rt 2, arI E 12 (((it (cRdO nu z r t u) (k1 + 1) (0, tr)).2).2.2.2.1)), (rt 3, arI E 12 (((it (cRdO nu z r t u) (k1 + 1) (0, tr)).2).2.2.2.2.1)), (rt 4, arI E 96 (((it (cRdO nu z r t u) (k1 + 1) (0, tr)).2).2.2.2.2.2)), (ox 2, arO E 4 (shF hs)), ((hs sh) 0, shO (hs sh) bt (nI z)), ((hs sh) 1, arJ E 40 nu)]) (by rw [it_s (cRdO nu z r t u) k1, cRdO]) ?_
                  refine G.iinc hX (n := 1) (lv' := [(5, .int (nI (k1 + 1))), (0, .ref (ox 0)), (1, .int (nI sh)), (2, .int (nI t)), (3, .int (nI u)), (4, .int (nI ((it (cRdO nu z r t u) (k1 + 1) (0, tr)).1))), (6, .int (nI 6))]) 5 rfl (inc_nI k1 1 rfl) (by decide) rfl dX3_read_128 ?_
                  refine G.goto hX (tgt := 62) (by decide) dX3_read_131 ?_
                  refine G.lvp (lv' := [(0, .ref (ox 0)), (1, .int (nI sh)), (2, .int (nI t)), (3, .int (nI u)), (4, .int (nI ((it (cRdO nu z r t u) (k1 + 1) (0, tr)).1))), (5, .int (nI (k1 + 1)))]) [1, 2, 3, 4, 5, 0] rfl ?_
                  refine G.lve (lv' := [(0, .ref (ox 0)), (1, .int (nI sh)), (2, .int (nI t)), (3, .int (nI u)), (4, .int (nI ((it (cRdO nu z r t u) (k1 + 1) (0, tr)).1))), (5, .int (nI ((k1 + 1))))]) (by rfl) ?_
                  exact ih62 (k1 + 1) (by omega) (by omega)
                · refine G.aload_n hX 0 rfl dX3_read_79 ?_
                  refine G.vv hX (As := []) (st := []) (wr := [(ox 2, arO E 4 (shF hs)), ((hs sh) 0, shO (hs sh) bt (nI z)), ((hs sh) 1, arJ E 40 nu)]) (wf := [(ox 0, noO ox rr rk rt rb xt kp), (rr 0, avO rr r.1 r.2.1), (rr 1, arI E 12 r.2.2.1), (rr 2, arI E 12 r.2.2.2.1), (rr 3, arI E 12 r.2.2.2.2.1), (rr 4, arI E 96 r.2.2.2.2.2), (rt 0, avO rt r.1 r.2.1), (rt 1, arI E 12 r.2.2.1), (rt 2, arI E 12 r.2.2.2.1), (rt 3, arI E 12 r.2.2.2.2.1), (rt 4, arI E 96 r.2.2.2.2.2), (ox 2, arO E 4 (shF hs)), ((hs sh) 0, shO (hs sh) bt (nI z)), ((hs sh) 1, arJ E 40 nu)]) (q0 := 0) (ci := 3) rfl rfl (c_X3_suppose _ E (r := r) (tr := (it (cRdS nu z r t u k1) k2 (it (cRdO nu z r t u) k1 (0, tr))).2) (ox := ox) (rr := rr) (rk := rk) (rt := rt) (rb := rb) (xt := xt) (kp := kp) ) gX3_read_X3_suppose cp_X3_suppose (by decide) [0, 1, 2, 3, 4, 5, 6, 7, 8, 9, 10] [11, 12, 13] [3, 4, 5, 6, 7, 8, 9, 10, 11, 12, 13, 0, 1, 2] ⟨rfl, rfl, by decide, rfl⟩ rfl rfl (Nat.le_of_ble_eq_true rfl) dX3_read_80 ?_
                  refine G.aload_n hX 0 rfl dX3_read_83 ?_
                  refine G.get hX inc_X3_read_3 0 rfl rfl 2 (by decide) (by decide +kernel) rfl dX3_read_84 ?_
                  refine G.get hX inc_X3_read_0 6 rfl rfl 2 (by decide) (by decide +kernel) rfl dX3_read_87 ?_
                  refine G.iload_n hX 2 rfl dX3_read_90 ?_
                  refine G.iload hX 5 rfl dX3_read_91 ?_
                  refine G.iast hX (j := t) (ws' := [(ox 0, noO ox rr rk rt rb xt kp), (rr 0, avO rr r.1 r.2.1), (rr 1, arI E 12 r.2.2.1), (rr 2, arI E 12 r.2.2.2.1), (rr 3, arI E 12 r.2.2.2.2.1), (rr 4, arI E 96 r.2.2.2.2.2), (rt 0, avO rt r.1 r.2.1), (rt 1, arI E 12 (upd r.2.2.1 t (nI k1))), (rt 2, arI E 12 r.2.2.2.1), (rt 3, arI E 12 r.2.2.2.2.1), (rt 4, arI E 96 r.2.2.2.2.2), (ox 2, arO E 4 (shF hs)), ((hs sh) 0, shO (hs sh) bt (nI z)), ((hs sh) 1, arJ E 40 nu)]) 7 rfl (by omega) (by omega) rfl rfl dX3_read_93 ?_
                  refine G.aload_n hX 0 rfl dX3_read_94 ?_
                  refine G.get hX inc_X3_read_3 0 rfl rfl 2 (by decide) (by decide +kernel) rfl dX3_read_95 ?_
                  refine G.get hX inc_X3_read_0 6 rfl rfl 2 (by decide) (by decide +kernel) rfl dX3_read_98 ?_
                  refine G.iload_n hX 3 rfl dX3_read_101 ?_
                  refine G.iload hX 6 rfl dX3_read_102 ?_
                  refine G.iast hX (j := u) (ws' := [(ox 0, noO ox rr rk rt rb xt kp), (rr 0, avO rr r.1 r.2.1), (rr 1, arI E 12 r.2.2.1), (rr 2, arI E 12 r.2.2.2.1), (rr 3, arI E 12 r.2.2.2.2.1), (rr 4, arI E 96 r.2.2.2.2.2), (rt 0, avO rt r.1 r.2.1), (rt 1, arI E 12 (upd (upd r.2.2.1 t (nI k1)) u (nI k2))), (rt 2, arI E 12 r.2.2.2.1), (rt 3, arI E 12 r.2.2.2.2.1), (rt 4, arI E 96 r.2.2.2.2.2), (ox 2, arO E 4 (shF hs)), ((hs sh) 0, shO (hs sh) bt (nI z)), ((hs sh) 1, arJ E 40 nu)]) 7 rfl (by omega) (by omega) rfl rfl dX3_read_104 ?_
                  refine G.we (ws' := [(ox 0, noO ox rr rk rt rb xt kp), (rr 0, avO rr r.1 r.2.1), (rr 1, arI E 12 r.2.2.1), (rr 2, arI E 12 r.2.2.2.1), (rr 3, arI E 12 r.2.2.2.2.1), (rr 4, arI E 96 r.2.2.2.2.2), (rt 0, avO rt ((cRdZ r t u k1 k2).1) ((cRdZ r t u k1 k2).2.1)), (rt 1, arI E 12 ((cRdZ r t u k1 k2).2.2.1)), (rt 2, arI E 12 ((cRdZ r t u k1 k2).2.2.2.1)), (rt 3, arI E 12 ((cRdZ r t u k1 k2).2.2.2.2.1)), (rt 4, arI E 96 ((cRdZ r t u k1 k2).2.2.2.2.2)), (ox 2, arO E 4 (shF hs)), ((hs sh) 0, shO (hs sh) bt (nI z)), ((hs sh) 1, arJ E 40 nu)]) (by rfl) ?_
                  refine G.aload_n hX 0 rfl dX3_read_105 ?_
                  refine G.aload_n hX 0 rfl dX3_read_106 ?_
                  refine G.get hX inc_X3_read_3 0 rfl rfl 6 (by decide) (by decide +kernel) rfl dX3_read_107 ?_
                  refine G.iload_n hX 1 rfl dX3_read_110 ?_
                  refine G.aald hX (j := sh) (v := .ref ((hs sh) 0)) 11 rfl (by omega) (by omega) (shF_at (by omega)) dX3_read_111 ?_
                  refine G.iload_n hX 2 rfl dX3_read_112 ?_
                  refine G.vi hX (As := [.ref ((hs sh) 0), .int (nI t)]) (st := []) (wr := [(rr 0, avO rr r.1 r.2.1), (rr 1, arI E 12 r.2.2.1), (rr 2, arI E 12 r.2.2.2.1), (rr 3, arI E 12 r.2.2.2.2.1), (rr 4, arI E 96 r.2.2.2.2.2), (ox 2, arO E 4 (shF hs))]) (wf := [(ox 0, noO ox rr rk rt rb xt kp), (rr 0, avO rr r.1 r.2.1), (rr 1, arI E 12 r.2.2.1), (rr 2, arI E 12 r.2.2.2.1), (rr 3, arI E 12 r.2.2.2.2.1), (rr 4, arI E 96 r.2.2.2.2.2), (rt 0, avO rt ((av_ys 255 (cRd nu z (cRdZ r t u k1 k2) t) (cRdZ r t u k1 k2)).1) ((av_ys 255 (cRd nu z (cRdZ r t u k1 k2) t) (cRdZ r t u k1 k2)).2.1)), (rt 1, arI E 12 ((av_ys 255 (cRd nu z (cRdZ r t u k1 k2) t) (cRdZ r t u k1 k2)).2.2.1)), (rt 2, arI E 12 ((av_ys 255 (cRd nu z (cRdZ r t u k1 k2) t) (cRdZ r t u k1 k2)).2.2.2.1)), (rt 3, arI E 12 ((av_ys 255 (cRd nu z (cRdZ r t u k1 k2) t) (cRdZ r t u k1 k2)).2.2.2.2.1)), (rt 4, arI E 96 ((av_ys 255 (cRd nu z (cRdZ r t u k1 k2) t) (cRdZ r t u k1 k2)).2.2.2.2.2)), (ox 2, arO E 4 (shF hs)), ((hs sh) 0, shO (hs sh) bt (nI z)), ((hs sh) 1, arJ E 40 nu)]) (q0 := 0) (ci := 3) rfl rfl (c_X3_goesAsWritten _ E (t := t) (z := z) (tr := cRdZ r t u k1 k2) (ox := ox) (rr := rr) (rk := rk) (rt := rt) (rb := rb) (xt := xt) (a := hs sh) (kp := kp) (bt := bt) (nu := nu) (h1 := by omega) (h2 := by omega)) gX3_read_X3_goesAsWritten cp_X3_goesAsWritten (by decide) [0, 6, 7, 8, 9, 10, 12, 13] [1, 2, 3, 4, 5, 11] [6, 0, 1, 2, 3, 4, 7, 8, 9, 10, 11, 5, 12, 13] ⟨rfl, rfl, by decide, rfl⟩ rfl rfl (Nat.le_of_ble_eq_true rfl) dX3_read_113 ?_
                  have J122 : G E X 7 122 [(0, .ref (ox 0)), (1, .int (nI sh)), (2, .int (nI t)), (3, .int (nI u)), (4, .int (nI ((it (cRdS nu z r t u k1) (k2 + 1) (it (cRdO nu z r t u) k1 (0, tr))).1))), (5, .int (nI k1)), (6, .int (nI k2))] [] [(ox 0, noO ox rr rk rt rb xt kp), (rr 0, avO rr r.1 r.2.1), (rr 1, arI E 12 r.2.2.1), (rr 2, arI E 12 r.2.2.2.1), (rr 3, arI E 12 r.2.2.2.2.1), (rr 4, arI E 96 r.2.2.2.2.2), (rt 0, avO rt (((it (cRdS nu z r t u k1) (k2 + 1) (it (cRdO nu z r t u) k1 (0, tr))).2).1) (((it (cRdS nu z r t u k1) (k2 + 1) (it (cRdO nu z r t u) k1 (0, tr))).2).2.1)), (rt 1, arI E 12 (((it (cRdS nu z r t u k1) (k2 + 1) (it (cRdO nu z r t u) k1 (0, tr))).2).2.2.1)), (rt 2, arI E 12 (((it (cRdS nu z r t u k1) (k2 + 1) (it (cRdO nu z r t u) k1 (0, tr))).2).2.2.2.1)), (rt 3, arI E 12 (((it (cRdS nu z r t u k1) (k2 + 1) (it (cRdO nu z r t u) k1 (0, tr))).2).2.2.2.2.1)), (rt 4, arI E 96 (((it (cRdS nu z r t u k1) (k2 + 1) (it (cRdO nu z r t u) k1 (0, tr))).2).2.2.2.2.2)), (ox 2, arO E 4 (shF hs)), ((hs sh) 0, shO (hs sh) bt (nI z)), ((hs sh) 1, arJ E 40 nu)] := by
                    refine G.iinc hX (n := 1) (lv' := [(6, .int (nI (k2 + 1))), (0, .ref (ox 0)), (1, .int (nI sh)), (2, .int (nI t)), (3, .int (nI u)), (4, .int (nI ((it (cRdS nu z r t u k1) (k2 + 1) (it (cRdO nu z r t u) k1 (0, tr))).1))), (5, .int (nI k1))]) 6 rfl (inc_nI k2 1 rfl) (by decide) rfl dX3_read_122 ?_
                    refine G.goto hX (tgt := 72) (by decide) dX3_read_125 ?_
                    refine G.lvp (lv' := [(0, .ref (ox 0)), (1, .int (nI sh)), (2, .int (nI t)), (3, .int (nI u)), (4, .int (nI ((it (cRdS nu z r t u k1) (k2 + 1) (it (cRdO nu z r t u) k1 (0, tr))).1))), (5, .int (nI k1)), (6, .int (nI (k2 + 1)))]) [1, 2, 3, 4, 5, 6, 0] rfl ?_
                    refine G.lve (lv' := [(0, .ref (ox 0)), (1, .int (nI sh)), (2, .int (nI t)), (3, .int (nI u)), (4, .int (nI ((it (cRdS nu z r t u k1) (k2 + 1) (it (cRdO nu z r t u) k1 (0, tr))).1))), (5, .int (nI k1)), (6, .int (nI ((k2 + 1))))]) (by rfl) ?_
                    exact ih72 (k2 + 1) (by omega) (by omega)
                  refine G.b_eq hX (tgt := 122) (by decide) dX3_read_116 (fun c116 => ?_) (fun c116 => ?_)
                  · refine G.lve (lv' := [(0, .ref (ox 0)), (1, .int (nI sh)), (2, .int (nI t)), (3, .int (nI u)), (4, .int (nI ((it (cRdS nu z r t u k1) (k2 + 1) (it (cRdO nu z r t u) k1 (0, tr))).1))), (5, .int (nI k1)), (6, .int (nI k2))]) (by first | (have e9 := of_decide_eq_true c116; simp only [it_s, cRdS, e9, ↓reduceIte]; done) | (have e9 := of_decide_eq_false c116; simp only [it_s, cRdS, e9, ↓reduceIte]; done)) ?_
                    refine G.we (ws' := [(ox 0, noO ox rr rk rt rb xt kp), (rr 0, avO rr r.1 r.2.1), (rr 1, arI E 12 r.2.2.1), (rr 2, arI E 12 r.2.2.2.1), (rr 3, arI E 12 r.2.2.2.2.1), (rr 4, arI E 96 r.2.2.2.2.2), (rt 0, avO rt (((it (cRdS nu z r t u k1) (k2 + 1) (it (cRdO nu z r t u) k1 (0, tr))).2).1) (((it (cRdS nu z r t u k1) (k2 + 1) (it (cRdO nu z r t u) k1 (0, tr))).2).2.1)), (rt 1, arI E 12 (((it (cRdS nu z r t u k1) (k2 + 1) (it (cRdO nu z r t u) k1 (0, tr))).2).2.2.1)), (rt 2, arI E 12 (((it (cRdS nu z r t u k1) (k2 + 1) (it (cRdO nu z r t u) k1 (0, tr))).2).2.2.2.1)), (rt 3, arI E 12 (((it (cRdS nu z r t u k1) (k2 + 1) (it (cRdO nu z r t u) k1 (0, tr))).2).2.2.2.2.1)), (rt 4, arI E 96 (((it (cRdS nu z r t u k1) (k2 + 1) (it (cRdO nu z r t u) k1 (0, tr))).2).2.2.2.2.2)), (ox 2, arO E 4 (shF hs)), ((hs sh) 0, shO (hs sh) bt (nI z)), ((hs sh) 1, arJ E 40 nu)]) (by first | (have e9 := of_decide_eq_true c116; simp only [it_s, cRdS, e9, ↓reduceIte]; done) | (have e9 := of_decide_eq_false c116; simp only [it_s, cRdS, e9, ↓reduceIte]; done)) ?_
                    exact J122
                  · refine G.iinc hX (n := 1) (lv' := [(4, .int (nI (((it (cRdS nu z r t u k1) k2 (it (cRdO nu z r t u) k1 (0, tr))).1) + 1))), (0, .ref (ox 0)), (1, .int (nI sh)), (2, .int (nI t)), (3, .int (nI u)), (5, .int (nI k1)), (6, .int (nI k2))]) 4 rfl (inc_nI ((it (cRdS nu z r t u k1) k2 (it (cRdO nu z r t u) k1 (0, tr))).1) 1 rfl) (by decide) rfl dX3_read_119 ?_
                    refine G.lvp (lv' := [(0, .ref (ox 0)), (1, .int (nI sh)), (2, .int (nI t)), (3, .int (nI u)), (4, .int (nI (((it (cRdS nu z r t u k1) k2 (it (cRdO nu z r t u) k1 (0, tr))).1) + 1))), (5, .int (nI k1)), (6, .int (nI k2))]) [1, 2, 3, 4, 0, 5, 6] rfl ?_
                    refine G.lve (lv' := [(0, .ref (ox 0)), (1, .int (nI sh)), (2, .int (nI t)), (3, .int (nI u)), (4, .int (nI ((it (cRdS nu z r t u k1) (k2 + 1) (it (cRdO nu z r t u) k1 (0, tr))).1))), (5, .int (nI k1)), (6, .int (nI k2))]) (by first | (have e9 := of_decide_eq_true c116; simp only [it_s, cRdS, e9, ↓reduceIte]; done) | (have e9 := of_decide_eq_false c116; simp only [it_s, cRdS, e9, ↓reduceIte]; done)) ?_
                    refine G.we (ws' := [(ox 0, noO ox rr rk rt rb xt kp), (rr 0, avO rr r.1 r.2.1), (rr 1, arI E 12 r.2.2.1), (rr 2, arI E 12 r.2.2.2.1), (rr 3, arI E 12 r.2.2.2.2.1), (rr 4, arI E 96 r.2.2.2.2.2), (rt 0, avO rt (((it (cRdS nu z r t u k1) (k2 + 1) (it (cRdO nu z r t u) k1 (0, tr))).2).1) (((it (cRdS nu z r t u k1) (k2 + 1) (it (cRdO nu z r t u) k1 (0, tr))).2).2.1)), (rt 1, arI E 12 (((it (cRdS nu z r t u k1) (k2 + 1) (it (cRdO nu z r t u) k1 (0, tr))).2).2.2.1)), (rt 2, arI E 12 (((it (cRdS nu z r t u k1) (k2 + 1) (it (cRdO nu z r t u) k1 (0, tr))).2).2.2.2.1)), (rt 3, arI E 12 (((it (cRdS nu z r t u k1) (k2 + 1) (it (cRdO nu z r t u) k1 (0, tr))).2).2.2.2.2.1)), (rt 4, arI E 96 (((it (cRdS nu z r t u k1) (k2 + 1) (it (cRdO nu z r t u) k1 (0, tr))).2).2.2.2.2.2)), (ox 2, arO E 4 (shF hs)), ((hs sh) 0, shO (hs sh) bt (nI z)), ((hs sh) 1, arJ E 40 nu)]) (by first | (have e9 := of_decide_eq_true c116; simp only [it_s, cRdS, e9, ↓reduceIte]; done) | (have e9 := of_decide_eq_false c116; simp only [it_s, cRdS, e9, ↓reduceIte]; done)) ?_
                    exact J122
            refine G.lvp (lv' := [(0, .ref (ox 0)), (1, .int (nI sh)), (2, .int (nI t)), (3, .int (nI u)), (4, .int (nI ((it (cRdO nu z r t u) k1 (0, tr)).1))), (5, .int (nI k1)), (6, .int 0)]) [1, 2, 3, 4, 5, 6, 0] rfl ?_
            refine G.lve (lv' := [(0, .ref (ox 0)), (1, .int (nI sh)), (2, .int (nI t)), (3, .int (nI u)), (4, .int (nI ((it (cRdS nu z r t u k1) 0 (it (cRdO nu z r t u) k1 (0, tr))).1))), (5, .int (nI k1)), (6, .int (nI 0))]) (by rfl) ?_
            refine G.we (ws' := [(ox 0, noO ox rr rk rt rb xt kp), (rr 0, avO rr r.1 r.2.1), (rr 1, arI E 12 r.2.2.1), (rr 2, arI E 12 r.2.2.2.1), (rr 3, arI E 12 r.2.2.2.2.1), (rr 4, arI E 96 r.2.2.2.2.2), (rt 0, avO rt (((it (cRdS nu z r t u k1) 0 (it (cRdO nu z r t u) k1 (0, tr))).2).1) (((it (cRdS nu z r t u k1) 0 (it (cRdO nu z r t u) k1 (0, tr))).2).2.1)), (rt 1, arI E 12 (((it (cRdS nu z r t u k1) 0 (it (cRdO nu z r t u) k1 (0, tr))).2).2.2.1)), (rt 2, arI E 12 (((it (cRdS nu z r t u k1) 0 (it (cRdO nu z r t u) k1 (0, tr))).2).2.2.2.1)), (rt 3, arI E 12 (((it (cRdS nu z r t u k1) 0 (it (cRdO nu z r t u) k1 (0, tr))).2).2.2.2.2.1)), (rt 4, arI E 96 (((it (cRdS nu z r t u k1) 0 (it (cRdO nu z r t u) k1 (0, tr))).2).2.2.2.2.2)), (ox 2, arO E 4 (shF hs)), ((hs sh) 0, shO (hs sh) bt (nI z)), ((hs sh) 1, arJ E 40 nu)]) (by rfl) ?_
            exact L72 7 0 (by omega) (by omega)
      refine G.lvp (lv' := [(0, .ref (ox 0)), (1, .int (nI sh)), (2, .int (nI t)), (3, .int (nI u)), (4, .int 0), (5, .int 0)]) [2, 3, 4, 5, 1, 0] rfl ?_
      refine G.lve (lv' := [(0, .ref (ox 0)), (1, .int (nI sh)), (2, .int (nI t)), (3, .int (nI u)), (4, .int (nI ((it (cRdO nu z r t u) 0 (0, tr)).1))), (5, .int (nI 0))]) (by rfl) ?_
      refine G.we (ws' := [(ox 0, noO ox rr rk rt rb xt kp), (rr 0, avO rr r.1 r.2.1), (rr 1, arI E 12 r.2.2.1), (rr 2, arI E 12 r.2.2.2.1), (rr 3, arI E 12 r.2.2.2.2.1), (rr 4, arI E 96 r.2.2.2.2.2), (rt 0, avO rt (((it (cRdO nu z r t u) 0 (0, tr)).2).1) (((it (cRdO nu z r t u) 0 (0, tr)).2).2.1)), (rt 1, arI E 12 (((it (cRdO nu z r t u) 0 (0, tr)).2).2.2.1)), (rt 2, arI E 12 (((it (cRdO nu z r t u) 0 (0, tr)).2).2.2.2.1)), (rt 3, arI E 12 (((it (cRdO nu z r t u) 0 (0, tr)).2).2.2.2.2.1)), (rt 4, arI E 96 (((it (cRdO nu z r t u) 0 (0, tr)).2).2.2.2.2.2)), (ox 2, arO E 4 (shF hs)), ((hs sh) 0, shO (hs sh) bt (nI z)), ((hs sh) 1, arJ E 40 nu)]) (by rfl) ?_
      exact L62 7 0 (by omega) (by omega)
    · exact absurd c47 (by omega)
  · exact absurd (of_decide_eq_true c22) h2
