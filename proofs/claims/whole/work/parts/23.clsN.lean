abbrev rmJ7_fill_53178 : Room := { frames := 0, cells := 0, slots := 0, locals := 0 }
theorem cp_J7_fill_53178 : CP yJ7_fill_53178 RJ7 wsJ7_fill_53178 4 2 rmJ7_fill_53178 := ⟨⟨_, _, _, rfl⟩, rfl, rfl, by decide +kernel⟩
set_option maxHeartbeats 4000000 in
set_option maxRecDepth 100000 in
theorem c_J7_fill_53178 (l : Launch) (E : EV) (aa : Nat) (nn : Nat) (v : Int32) (f : Nat → Int32) (h1 : nn < 2 ^ 31) : CV l yJ7_fill_53178 wsJ7_fill_53178 rmJ7_fill_53178 E [.ref aa, .int v] [(aa, arI E nn f)] [(aa, arI E nn (fun _ => v))] := by
  refine CV.of (own := RJ7) (cc := cJ7_fill_53178) (nL := 4) (rt := none) (by decide) rfl rfl (Nat.le_of_ble_eq_true rfl) (fun X hX hQ => ?_)
  show G E X 4 0 [(0, .ref aa), (1, .int v)] [] [(aa, arI E nn f)]
  refine G.iconst hX (v := 0) (by decide) dJ7_fill_53178_0 ?_
  refine G.istore_n hX (lv' := [(2, .int 0), (0, .ref aa), (1, .int v)]) rfl (by decide) rfl dJ7_fill_53178_1 ?_
  refine G.aload_n hX 1 rfl dJ7_fill_53178_2 ?_
  refine G.alen hX (v := nI nn) 0 0 rfl rfl rfl dJ7_fill_53178_3 ?_
  refine G.istore_n hX (lv' := [(3, .int (nI nn)), (2, .int 0), (0, .ref aa), (1, .int v)]) rfl (by decide) rfl dJ7_fill_53178_4 ?_
  have L5 : ∀ (n : Nat) (i : Nat), i ≤ nn → nn + 1 ≤ i + n → G E X 4 5 [(0, .ref aa), (1, .int v), (2, .int (nI i)), (3, .int (nI nn))] [] [(aa, arI E nn (cpN i (fun _ => v) f))] := by
    intro n
    induction n with
    | zero => intro i hl5_0 hl5_1; exact absurd hl5_1 (by omega)
    | succ n ih5 =>
      intro i hl5_0 hl5_1
      refine G.iload_n hX 2 rfl dJ7_fill_53178_5 ?_
      refine G.iload_n hX 3 rfl dJ7_fill_53178_6 ?_
      refine G.n_ge hX (a := i) (b := nn) (tgt := 20) (by omega) (by omega) (by decide) dJ7_fill_53178_7 (fun c7 => ?_) (fun c7 => ?_)
      · obtain rfl : nn = i := by omega
        refine G.ext (g := fun _ => v) (ws' := [(aa, arI E nn (fun _ => v))]) 0 rfl (fun j hj => cpN_in hj) rfl ?_
        exact G.vret hX hQ dJ7_fill_53178_20 (by rfl)
      · refine G.aload_n hX 0 rfl dJ7_fill_53178_10 ?_
        refine G.iload_n hX 2 rfl dJ7_fill_53178_11 ?_
        refine G.iload_n hX 1 rfl dJ7_fill_53178_12 ?_
        refine G.iast hX (j := i) (ws' := [(aa, arI E nn (upd (cpN i (fun _ => v) f) i v))]) 0 rfl (by omega) (by omega) rfl rfl dJ7_fill_53178_13 ?_
        refine G.iinc hX (n := 1) (lv' := [(2, .int (nI (i + 1))), (0, .ref aa), (1, .int v), (3, .int (nI nn))]) 2 rfl (inc_nI i 1 rfl) (by decide) rfl dJ7_fill_53178_14 ?_
        refine G.goto hX (tgt := 5) (by decide) dJ7_fill_53178_17 ?_
        refine G.lvp (lv' := [(0, .ref aa), (1, .int v), (2, .int (nI (i + 1))), (3, .int (nI nn))]) [1, 2, 0, 3] rfl ?_
        refine G.lve (lv' := [(0, .ref aa), (1, .int v), (2, .int (nI ((i + 1)))), (3, .int (nI nn))]) (by rfl) ?_
        refine G.we (ws' := [(aa, arI E nn (cpN (i + 1) (fun _ => v) f))]) (by rw [← cpN_s]) ?_
        exact ih5 (i + 1) (by omega) (by omega)
  refine G.lvp (lv' := [(0, .ref aa), (1, .int v), (2, .int 0), (3, .int (nI nn))]) [2, 3, 1, 0] rfl ?_
  refine G.lve (lv' := [(0, .ref aa), (1, .int v), (2, .int (nI 0)), (3, .int (nI nn))]) (by rfl) ?_
  refine G.we (ws' := [(aa, arI E nn (cpN 0 (fun _ => v) f))]) (by rw [cpN_0]) ?_
  exact L5 (nn + 1) 0 (by omega) (by omega)
abbrev rmX3_isTree : Room := { frames := 0, cells := 0, slots := 0, locals := 0 }
theorem cp_X3_isTree : CP yX3_isTree RX3 wsX3_isTree 1 1 rmX3_isTree := ⟨⟨_, _, _, rfl⟩, rfl, rfl, by decide +kernel⟩
set_option maxHeartbeats 4000000 in
set_option maxRecDepth 100000 in
theorem c_X3_isTreen (l : Launch) (E : EV) (x : Nat) (h1 : x < 12) : CI l yX3_isTree wsX3_isTree rmX3_isTree E [.int (nI x)] [] [] 1 := by
  refine CI.of (own := RX3) (cc := cX3_isTree) (nL := 1) (rt := (some .boolean)) (by decide) rfl rfl (Nat.le_of_ble_eq_true rfl) (fun X hX hQ => ?_)
  show G E X 1 0 [(0, .int (nI x))] [] []
  refine G.iload_n hX 0 rfl dX3_isTree_0 ?_
  refine G.if_lt hX (tgt := 14) (by decide) dX3_isTree_1 (fun c1 => absurd c1 (nI_pos (by omega))) (fun _ => ?_)
  refine G.iload_n hX 0 rfl dX3_isTree_4 ?_
  refine G.bipush hX (v := 12) (by decide) dX3_isTree_5 ?_
  refine G.n_ge hX (a := x) (b := 12) (tgt := 14) (by omega) (by omega) (by decide) dX3_isTree_7 (fun c7 => ?_) (fun c7 => ?_)
  · exact absurd h1 (by omega)
  · refine G.iconst hX (v := 1) (by decide) dX3_isTree_10 ?_
    refine G.goto hX (tgt := 15) (by decide) dX3_isTree_11 ?_
    exact G.zret hX hQ rfl dX3_isTree_15 (by rfl) (by rfl)
set_option maxHeartbeats 4000000 in
set_option maxRecDepth 100000 in
theorem c_X3_isTree (l : Launch) (E : EV) (x : Int32)  : CI l yX3_isTree wsX3_isTree rmX3_isTree E [.int x] [] [] (bI (cIn 12 x)) := by
  refine CI.of (own := RX3) (cc := cX3_isTree) (nL := 1) (rt := (some .boolean)) (by decide) rfl rfl (Nat.le_of_ble_eq_true rfl) (fun X hX hQ => ?_)
  show G E X 1 0 [(0, .int x)] [] []
  refine G.iload_n hX 0 rfl dX3_isTree_0 ?_
  refine G.if_lt hX (tgt := 14) (by decide) dX3_isTree_1 (fun c1 => ?_) (fun c1 => ?_)
  · refine G.iconst hX (v := 0) (by decide) dX3_isTree_14 ?_
    exact G.zret hX hQ rfl dX3_isTree_15 (bI_0.mpr (by first | rfl | (simp only [cIn, c1, ↓reduceIte, Bool.not_true, Bool.not_false, Bool.and_true, Bool.true_and, Bool.and_false, Bool.false_and, Bool.or_true, Bool.true_or, Bool.or_false, Bool.false_or, decide_true, decide_false, not_true_eq_false, not_false_eq_true, Bool.false_eq_true, Bool.true_eq_false]; done) | (simp only [cIn, c1, ↓reduceIte, Bool.not_true, Bool.not_false, Bool.and_true, Bool.true_and, Bool.and_false, Bool.false_and, Bool.or_true, Bool.true_or, Bool.or_false, Bool.false_or, decide_true, decide_false, not_true_eq_false, not_false_eq_true, Bool.false_eq_true, Bool.true_eq_false]; rfl) | (simp [cIn, c1]; done))).symm (by rfl)
  · refine G.iload_n hX 0 rfl dX3_isTree_4 ?_
    refine G.bipush hX (v := 12) (by decide) dX3_isTree_5 ?_
    refine G.icmp_ge hX (tgt := 14) (by decide) dX3_isTree_7 (fun c7 => ?_) (fun c7 => ?_)
    · refine G.iconst hX (v := 0) (by decide) dX3_isTree_14 ?_
      exact G.zret hX hQ rfl dX3_isTree_15 (bI_0.mpr (by first | rfl | (simp only [cIn, c1, c7, ↓reduceIte, Bool.not_true, Bool.not_false, Bool.and_true, Bool.true_and, Bool.and_false, Bool.false_and, Bool.or_true, Bool.true_or, Bool.or_false, Bool.false_or, decide_true, decide_false, not_true_eq_false, not_false_eq_true, Bool.false_eq_true, Bool.true_eq_false]; done) | (simp only [cIn, c1, c7, ↓reduceIte, Bool.not_true, Bool.not_false, Bool.and_true, Bool.true_and, Bool.and_false, Bool.false_and, Bool.or_true, Bool.true_or, Bool.or_false, Bool.false_or, decide_true, decide_false, not_true_eq_false, not_false_eq_true, Bool.false_eq_true, Bool.true_eq_false]; rfl) | (simp [cIn, c1, c7]; done))).symm (by rfl)
    · refine G.iconst hX (v := 1) (by decide) dX3_isTree_10 ?_
      refine G.goto hX (tgt := 15) (by decide) dX3_isTree_11 ?_
      exact G.zret hX hQ rfl dX3_isTree_15 (bI_1.mpr (by first | rfl | (simp only [cIn, c1, c7, ↓reduceIte, Bool.not_true, Bool.not_false, Bool.and_true, Bool.true_and, Bool.and_false, Bool.false_and, Bool.or_true, Bool.true_or, Bool.or_false, Bool.false_or, decide_true, decide_false, not_true_eq_false, not_false_eq_true, Bool.false_eq_true, Bool.true_eq_false]; done) | (simp only [cIn, c1, c7, ↓reduceIte, Bool.not_true, Bool.not_false, Bool.and_true, Bool.true_and, Bool.and_false, Bool.false_and, Bool.or_true, Bool.true_or, Bool.or_false, Bool.false_or, decide_true, decide_false, not_true_eq_false, not_false_eq_true, Bool.false_eq_true, Bool.true_eq_false]; rfl) | (simp [cIn, c1, c7]; done))).symm (by rfl)
abbrev rmX3_isPlace : Room := { frames := 0, cells := 0, slots := 0, locals := 0 }
theorem cp_X3_isPlace : CP yX3_isPlace RX3 wsX3_isPlace 1 1 rmX3_isPlace := ⟨⟨_, _, _, rfl⟩, rfl, rfl, by decide +kernel⟩
set_option maxHeartbeats 4000000 in
set_option maxRecDepth 100000 in
theorem c_X3_isPlacen (l : Launch) (E : EV) (x : Nat) (h1 : x < 6) : CI l yX3_isPlace wsX3_isPlace rmX3_isPlace E [.int (nI x)] [] [] 1 := by
  refine CI.of (own := RX3) (cc := cX3_isPlace) (nL := 1) (rt := (some .boolean)) (by decide) rfl rfl (Nat.le_of_ble_eq_true rfl) (fun X hX hQ => ?_)
  show G E X 1 0 [(0, .int (nI x))] [] []
  refine G.iload_n hX 0 rfl dX3_isPlace_0 ?_
  refine G.if_lt hX (tgt := 14) (by decide) dX3_isPlace_1 (fun c1 => absurd c1 (nI_pos (by omega))) (fun _ => ?_)
  refine G.iload_n hX 0 rfl dX3_isPlace_4 ?_
  refine G.bipush hX (v := 6) (by decide) dX3_isPlace_5 ?_
  refine G.n_ge hX (a := x) (b := 6) (tgt := 14) (by omega) (by omega) (by decide) dX3_isPlace_7 (fun c7 => ?_) (fun c7 => ?_)
  · exact absurd h1 (by omega)
  · refine G.iconst hX (v := 1) (by decide) dX3_isPlace_10 ?_
    refine G.goto hX (tgt := 15) (by decide) dX3_isPlace_11 ?_
    exact G.zret hX hQ rfl dX3_isPlace_15 (by rfl) (by rfl)
set_option maxHeartbeats 4000000 in
set_option maxRecDepth 100000 in
theorem c_X3_isPlace (l : Launch) (E : EV) (x : Int32)  : CI l yX3_isPlace wsX3_isPlace rmX3_isPlace E [.int x] [] [] (bI (cIn 6 x)) := by
  refine CI.of (own := RX3) (cc := cX3_isPlace) (nL := 1) (rt := (some .boolean)) (by decide) rfl rfl (Nat.le_of_ble_eq_true rfl) (fun X hX hQ => ?_)
  show G E X 1 0 [(0, .int x)] [] []
  refine G.iload_n hX 0 rfl dX3_isPlace_0 ?_
  refine G.if_lt hX (tgt := 14) (by decide) dX3_isPlace_1 (fun c1 => ?_) (fun c1 => ?_)
  · refine G.iconst hX (v := 0) (by decide) dX3_isPlace_14 ?_
    exact G.zret hX hQ rfl dX3_isPlace_15 (bI_0.mpr (by first | rfl | (simp only [cIn, c1, ↓reduceIte, Bool.not_true, Bool.not_false, Bool.and_true, Bool.true_and, Bool.and_false, Bool.false_and, Bool.or_true, Bool.true_or, Bool.or_false, Bool.false_or, decide_true, decide_false, not_true_eq_false, not_false_eq_true, Bool.false_eq_true, Bool.true_eq_false]; done) | (simp only [cIn, c1, ↓reduceIte, Bool.not_true, Bool.not_false, Bool.and_true, Bool.true_and, Bool.and_false, Bool.false_and, Bool.or_true, Bool.true_or, Bool.or_false, Bool.false_or, decide_true, decide_false, not_true_eq_false, not_false_eq_true, Bool.false_eq_true, Bool.true_eq_false]; rfl) | (simp [cIn, c1]; done))).symm (by rfl)
  · refine G.iload_n hX 0 rfl dX3_isPlace_4 ?_
    refine G.bipush hX (v := 6) (by decide) dX3_isPlace_5 ?_
    refine G.icmp_ge hX (tgt := 14) (by decide) dX3_isPlace_7 (fun c7 => ?_) (fun c7 => ?_)
    · refine G.iconst hX (v := 0) (by decide) dX3_isPlace_14 ?_
      exact G.zret hX hQ rfl dX3_isPlace_15 (bI_0.mpr (by first | rfl | (simp only [cIn, c1, c7, ↓reduceIte, Bool.not_true, Bool.not_false, Bool.and_true, Bool.true_and, Bool.and_false, Bool.false_and, Bool.or_true, Bool.true_or, Bool.or_false, Bool.false_or, decide_true, decide_false, not_true_eq_false, not_false_eq_true, Bool.false_eq_true, Bool.true_eq_false]; done) | (simp only [cIn, c1, c7, ↓reduceIte, Bool.not_true, Bool.not_false, Bool.and_true, Bool.true_and, Bool.and_false, Bool.false_and, Bool.or_true, Bool.true_or, Bool.or_false, Bool.false_or, decide_true, decide_false, not_true_eq_false, not_false_eq_true, Bool.false_eq_true, Bool.true_eq_false]; rfl) | (simp [cIn, c1, c7]; done))).symm (by rfl)
    · refine G.iconst hX (v := 1) (by decide) dX3_isPlace_10 ?_
      refine G.goto hX (tgt := 15) (by decide) dX3_isPlace_11 ?_
      exact G.zret hX hQ rfl dX3_isPlace_15 (bI_1.mpr (by first | rfl | (simp only [cIn, c1, c7, ↓reduceIte, Bool.not_true, Bool.not_false, Bool.and_true, Bool.true_and, Bool.and_false, Bool.false_and, Bool.or_true, Bool.true_or, Bool.or_false, Bool.false_or, decide_true, decide_false, not_true_eq_false, not_false_eq_true, Bool.false_eq_true, Bool.true_eq_false]; done) | (simp only [cIn, c1, c7, ↓reduceIte, Bool.not_true, Bool.not_false, Bool.and_true, Bool.true_and, Bool.and_false, Bool.false_and, Bool.or_true, Bool.true_or, Bool.or_false, Bool.false_or, decide_true, decide_false, not_true_eq_false, not_false_eq_true, Bool.false_eq_true, Bool.true_eq_false]; rfl) | (simp [cIn, c1, c7]; done))).symm (by rfl)
abbrev rmX3_isMessage : Room := { frames := 0, cells := 0, slots := 0, locals := 0 }
theorem cp_X3_isMessage : CP yX3_isMessage RX3 wsX3_isMessage 1 1 rmX3_isMessage := ⟨⟨_, _, _, rfl⟩, rfl, rfl, by decide +kernel⟩
set_option maxHeartbeats 4000000 in
set_option maxRecDepth 100000 in
theorem c_X3_isMessagen (l : Launch) (E : EV) (x : Nat) (h1 : x < 8) : CI l yX3_isMessage wsX3_isMessage rmX3_isMessage E [.int (nI x)] [] [] 1 := by
  refine CI.of (own := RX3) (cc := cX3_isMessage) (nL := 1) (rt := (some .boolean)) (by decide) rfl rfl (Nat.le_of_ble_eq_true rfl) (fun X hX hQ => ?_)
  show G E X 1 0 [(0, .int (nI x))] [] []
  refine G.iload_n hX 0 rfl dX3_isMessage_0 ?_
  refine G.if_lt hX (tgt := 14) (by decide) dX3_isMessage_1 (fun c1 => absurd c1 (nI_pos (by omega))) (fun _ => ?_)
  refine G.iload_n hX 0 rfl dX3_isMessage_4 ?_
  refine G.bipush hX (v := 8) (by decide) dX3_isMessage_5 ?_
  refine G.n_ge hX (a := x) (b := 8) (tgt := 14) (by omega) (by omega) (by decide) dX3_isMessage_7 (fun c7 => ?_) (fun c7 => ?_)
  · exact absurd h1 (by omega)
  · refine G.iconst hX (v := 1) (by decide) dX3_isMessage_10 ?_
    refine G.goto hX (tgt := 15) (by decide) dX3_isMessage_11 ?_
    exact G.zret hX hQ rfl dX3_isMessage_15 (by rfl) (by rfl)
set_option maxHeartbeats 4000000 in
set_option maxRecDepth 100000 in
theorem c_X3_isMessage (l : Launch) (E : EV) (x : Int32)  : CI l yX3_isMessage wsX3_isMessage rmX3_isMessage E [.int x] [] [] (bI (cIn 8 x)) := by
  refine CI.of (own := RX3) (cc := cX3_isMessage) (nL := 1) (rt := (some .boolean)) (by decide) rfl rfl (Nat.le_of_ble_eq_true rfl) (fun X hX hQ => ?_)
  show G E X 1 0 [(0, .int x)] [] []
  refine G.iload_n hX 0 rfl dX3_isMessage_0 ?_
  refine G.if_lt hX (tgt := 14) (by decide) dX3_isMessage_1 (fun c1 => ?_) (fun c1 => ?_)
  · refine G.iconst hX (v := 0) (by decide) dX3_isMessage_14 ?_
    exact G.zret hX hQ rfl dX3_isMessage_15 (bI_0.mpr (by first | rfl | (simp only [cIn, c1, ↓reduceIte, Bool.not_true, Bool.not_false, Bool.and_true, Bool.true_and, Bool.and_false, Bool.false_and, Bool.or_true, Bool.true_or, Bool.or_false, Bool.false_or, decide_true, decide_false, not_true_eq_false, not_false_eq_true, Bool.false_eq_true, Bool.true_eq_false]; done) | (simp only [cIn, c1, ↓reduceIte, Bool.not_true, Bool.not_false, Bool.and_true, Bool.true_and, Bool.and_false, Bool.false_and, Bool.or_true, Bool.true_or, Bool.or_false, Bool.false_or, decide_true, decide_false, not_true_eq_false, not_false_eq_true, Bool.false_eq_true, Bool.true_eq_false]; rfl) | (simp [cIn, c1]; done))).symm (by rfl)
  · refine G.iload_n hX 0 rfl dX3_isMessage_4 ?_
    refine G.bipush hX (v := 8) (by decide) dX3_isMessage_5 ?_
    refine G.icmp_ge hX (tgt := 14) (by decide) dX3_isMessage_7 (fun c7 => ?_) (fun c7 => ?_)
    · refine G.iconst hX (v := 0) (by decide) dX3_isMessage_14 ?_
      exact G.zret hX hQ rfl dX3_isMessage_15 (bI_0.mpr (by first | rfl | (simp only [cIn, c1, c7, ↓reduceIte, Bool.not_true, Bool.not_false, Bool.and_true, Bool.true_and, Bool.and_false, Bool.false_and, Bool.or_true, Bool.true_or, Bool.or_false, Bool.false_or, decide_true, decide_false, not_true_eq_false, not_false_eq_true, Bool.false_eq_true, Bool.true_eq_false]; done) | (simp only [cIn, c1, c7, ↓reduceIte, Bool.not_true, Bool.not_false, Bool.and_true, Bool.true_and, Bool.and_false, Bool.false_and, Bool.or_true, Bool.true_or, Bool.or_false, Bool.false_or, decide_true, decide_false, not_true_eq_false, not_false_eq_true, Bool.false_eq_true, Bool.true_eq_false]; rfl) | (simp [cIn, c1, c7]; done))).symm (by rfl)
    · refine G.iconst hX (v := 1) (by decide) dX3_isMessage_10 ?_
      refine G.goto hX (tgt := 15) (by decide) dX3_isMessage_11 ?_
      exact G.zret hX hQ rfl dX3_isMessage_15 (bI_1.mpr (by first | rfl | (simp only [cIn, c1, c7, ↓reduceIte, Bool.not_true, Bool.not_false, Bool.and_true, Bool.true_and, Bool.and_false, Bool.false_and, Bool.or_true, Bool.true_or, Bool.or_false, Bool.false_or, decide_true, decide_false, not_true_eq_false, not_false_eq_true, Bool.false_eq_true, Bool.true_eq_false]; done) | (simp only [cIn, c1, c7, ↓reduceIte, Bool.not_true, Bool.not_false, Bool.and_true, Bool.true_and, Bool.and_false, Bool.false_and, Bool.or_true, Bool.true_or, Bool.or_false, Bool.false_or, decide_true, decide_false, not_true_eq_false, not_false_eq_true, Bool.false_eq_true, Bool.true_eq_false]; rfl) | (simp [cIn, c1, c7]; done))).symm (by rfl)
abbrev rmX3_isKind : Room := { frames := 0, cells := 0, slots := 0, locals := 0 }
theorem cp_X3_isKind : CP yX3_isKind RX3 wsX3_isKind 1 1 rmX3_isKind := ⟨⟨_, _, _, rfl⟩, rfl, rfl, by decide +kernel⟩
set_option maxHeartbeats 4000000 in
set_option maxRecDepth 100000 in
theorem c_X3_isKindn (l : Launch) (E : EV) (x : Nat) (h1 : x < 6) : CI l yX3_isKind wsX3_isKind rmX3_isKind E [.int (nI x)] [] [] 1 := by
  refine CI.of (own := RX3) (cc := cX3_isKind) (nL := 1) (rt := (some .boolean)) (by decide) rfl rfl (Nat.le_of_ble_eq_true rfl) (fun X hX hQ => ?_)
  show G E X 1 0 [(0, .int (nI x))] [] []
  refine G.iload_n hX 0 rfl dX3_isKind_0 ?_
  refine G.if_lt hX (tgt := 14) (by decide) dX3_isKind_1 (fun c1 => absurd c1 (nI_pos (by omega))) (fun _ => ?_)
  refine G.iload_n hX 0 rfl dX3_isKind_4 ?_
  refine G.bipush hX (v := 6) (by decide) dX3_isKind_5 ?_
  refine G.n_ge hX (a := x) (b := 6) (tgt := 14) (by omega) (by omega) (by decide) dX3_isKind_7 (fun c7 => ?_) (fun c7 => ?_)
  · exact absurd h1 (by omega)
  · refine G.iconst hX (v := 1) (by decide) dX3_isKind_10 ?_
    refine G.goto hX (tgt := 15) (by decide) dX3_isKind_11 ?_
    exact G.zret hX hQ rfl dX3_isKind_15 (by rfl) (by rfl)
set_option maxHeartbeats 4000000 in
set_option maxRecDepth 100000 in
theorem c_X3_isKind (l : Launch) (E : EV) (x : Int32)  : CI l yX3_isKind wsX3_isKind rmX3_isKind E [.int x] [] [] (bI (cIn 6 x)) := by
  refine CI.of (own := RX3) (cc := cX3_isKind) (nL := 1) (rt := (some .boolean)) (by decide) rfl rfl (Nat.le_of_ble_eq_true rfl) (fun X hX hQ => ?_)
  show G E X 1 0 [(0, .int x)] [] []
  refine G.iload_n hX 0 rfl dX3_isKind_0 ?_
  refine G.if_lt hX (tgt := 14) (by decide) dX3_isKind_1 (fun c1 => ?_) (fun c1 => ?_)
  · refine G.iconst hX (v := 0) (by decide) dX3_isKind_14 ?_
    exact G.zret hX hQ rfl dX3_isKind_15 (bI_0.mpr (by first | rfl | (simp only [cIn, c1, ↓reduceIte, Bool.not_true, Bool.not_false, Bool.and_true, Bool.true_and, Bool.and_false, Bool.false_and, Bool.or_true, Bool.true_or, Bool.or_false, Bool.false_or, decide_true, decide_false, not_true_eq_false, not_false_eq_true, Bool.false_eq_true, Bool.true_eq_false]; done) | (simp only [cIn, c1, ↓reduceIte, Bool.not_true, Bool.not_false, Bool.and_true, Bool.true_and, Bool.and_false, Bool.false_and, Bool.or_true, Bool.true_or, Bool.or_false, Bool.false_or, decide_true, decide_false, not_true_eq_false, not_false_eq_true, Bool.false_eq_true, Bool.true_eq_false]; rfl) | (simp [cIn, c1]; done))).symm (by rfl)
  · refine G.iload_n hX 0 rfl dX3_isKind_4 ?_
    refine G.bipush hX (v := 6) (by decide) dX3_isKind_5 ?_
    refine G.icmp_ge hX (tgt := 14) (by decide) dX3_isKind_7 (fun c7 => ?_) (fun c7 => ?_)
    · refine G.iconst hX (v := 0) (by decide) dX3_isKind_14 ?_
      exact G.zret hX hQ rfl dX3_isKind_15 (bI_0.mpr (by first | rfl | (simp only [cIn, c1, c7, ↓reduceIte, Bool.not_true, Bool.not_false, Bool.and_true, Bool.true_and, Bool.and_false, Bool.false_and, Bool.or_true, Bool.true_or, Bool.or_false, Bool.false_or, decide_true, decide_false, not_true_eq_false, not_false_eq_true, Bool.false_eq_true, Bool.true_eq_false]; done) | (simp only [cIn, c1, c7, ↓reduceIte, Bool.not_true, Bool.not_false, Bool.and_true, Bool.true_and, Bool.and_false, Bool.false_and, Bool.or_true, Bool.true_or, Bool.or_false, Bool.false_or, decide_true, decide_false, not_true_eq_false, not_false_eq_true, Bool.false_eq_true, Bool.true_eq_false]; rfl) | (simp [cIn, c1, c7]; done))).symm (by rfl)
    · refine G.iconst hX (v := 1) (by decide) dX3_isKind_10 ?_
      refine G.goto hX (tgt := 15) (by decide) dX3_isKind_11 ?_
      exact G.zret hX hQ rfl dX3_isKind_15 (bI_1.mpr (by first | rfl | (simp only [cIn, c1, c7, ↓reduceIte, Bool.not_true, Bool.not_false, Bool.and_true, Bool.true_and, Bool.and_false, Bool.false_and, Bool.or_true, Bool.true_or, Bool.or_false, Bool.false_or, decide_true, decide_false, not_true_eq_false, not_false_eq_true, Bool.false_eq_true, Bool.true_eq_false]; done) | (simp only [cIn, c1, c7, ↓reduceIte, Bool.not_true, Bool.not_false, Bool.and_true, Bool.true_and, Bool.and_false, Bool.false_and, Bool.or_true, Bool.true_or, Bool.or_false, Bool.false_or, decide_true, decide_false, not_true_eq_false, not_false_eq_true, Bool.false_eq_true, Bool.true_eq_false]; rfl) | (simp [cIn, c1, c7]; done))).symm (by rfl)
abbrev rmX3_isSheet : Room := { frames := 0, cells := 0, slots := 0, locals := 0 }
theorem cp_X3_isSheet : CP yX3_isSheet RX3 wsX3_isSheet 1 1 rmX3_isSheet := ⟨⟨_, _, _, rfl⟩, rfl, rfl, by decide +kernel⟩
set_option maxHeartbeats 4000000 in
set_option maxRecDepth 100000 in
theorem c_X3_isSheetn (l : Launch) (E : EV) (x : Nat) (h1 : x < 4) : CI l yX3_isSheet wsX3_isSheet rmX3_isSheet E [.int (nI x)] [] [] 1 := by
  refine CI.of (own := RX3) (cc := cX3_isSheet) (nL := 1) (rt := (some .boolean)) (by decide) rfl rfl (Nat.le_of_ble_eq_true rfl) (fun X hX hQ => ?_)
  show G E X 1 0 [(0, .int (nI x))] [] []
  refine G.iload_n hX 0 rfl dX3_isSheet_0 ?_
  refine G.if_lt hX (tgt := 13) (by decide) dX3_isSheet_1 (fun c1 => absurd c1 (nI_pos (by omega))) (fun _ => ?_)
  refine G.iload_n hX 0 rfl dX3_isSheet_4 ?_
  refine G.iconst hX (v := 4) (by decide) dX3_isSheet_5 ?_
  refine G.n_ge hX (a := x) (b := 4) (tgt := 13) (by omega) (by omega) (by decide) dX3_isSheet_6 (fun c6 => ?_) (fun c6 => ?_)
  · exact absurd h1 (by omega)
  · refine G.iconst hX (v := 1) (by decide) dX3_isSheet_9 ?_
    refine G.goto hX (tgt := 14) (by decide) dX3_isSheet_10 ?_
    exact G.zret hX hQ rfl dX3_isSheet_14 (by rfl) (by rfl)
set_option maxHeartbeats 4000000 in
set_option maxRecDepth 100000 in
theorem c_X3_isSheet (l : Launch) (E : EV) (x : Int32)  : CI l yX3_isSheet wsX3_isSheet rmX3_isSheet E [.int x] [] [] (bI (cIn 4 x)) := by
  refine CI.of (own := RX3) (cc := cX3_isSheet) (nL := 1) (rt := (some .boolean)) (by decide) rfl rfl (Nat.le_of_ble_eq_true rfl) (fun X hX hQ => ?_)
  show G E X 1 0 [(0, .int x)] [] []
  refine G.iload_n hX 0 rfl dX3_isSheet_0 ?_
  refine G.if_lt hX (tgt := 13) (by decide) dX3_isSheet_1 (fun c1 => ?_) (fun c1 => ?_)
  · refine G.iconst hX (v := 0) (by decide) dX3_isSheet_13 ?_
    exact G.zret hX hQ rfl dX3_isSheet_14 (bI_0.mpr (by first | rfl | (simp only [cIn, c1, ↓reduceIte, Bool.not_true, Bool.not_false, Bool.and_true, Bool.true_and, Bool.and_false, Bool.false_and, Bool.or_true, Bool.true_or, Bool.or_false, Bool.false_or, decide_true, decide_false, not_true_eq_false, not_false_eq_true, Bool.false_eq_true, Bool.true_eq_false]; done) | (simp only [cIn, c1, ↓reduceIte, Bool.not_true, Bool.not_false, Bool.and_true, Bool.true_and, Bool.and_false, Bool.false_and, Bool.or_true, Bool.true_or, Bool.or_false, Bool.false_or, decide_true, decide_false, not_true_eq_false, not_false_eq_true, Bool.false_eq_true, Bool.true_eq_false]; rfl) | (simp [cIn, c1]; done))).symm (by rfl)
  · refine G.iload_n hX 0 rfl dX3_isSheet_4 ?_
    refine G.iconst hX (v := 4) (by decide) dX3_isSheet_5 ?_
    refine G.icmp_ge hX (tgt := 13) (by decide) dX3_isSheet_6 (fun c6 => ?_) (fun c6 => ?_)
    · refine G.iconst hX (v := 0) (by decide) dX3_isSheet_13 ?_
      exact G.zret hX hQ rfl dX3_isSheet_14 (bI_0.mpr (by first | rfl | (simp only [cIn, c1, c6, ↓reduceIte, Bool.not_true, Bool.not_false, Bool.and_true, Bool.true_and, Bool.and_false, Bool.false_and, Bool.or_true, Bool.true_or, Bool.or_false, Bool.false_or, decide_true, decide_false, not_true_eq_false, not_false_eq_true, Bool.false_eq_true, Bool.true_eq_false]; done) | (simp only [cIn, c1, c6, ↓reduceIte, Bool.not_true, Bool.not_false, Bool.and_true, Bool.true_and, Bool.and_false, Bool.false_and, Bool.or_true, Bool.true_or, Bool.or_false, Bool.false_or, decide_true, decide_false, not_true_eq_false, not_false_eq_true, Bool.false_eq_true, Bool.true_eq_false]; rfl) | (simp [cIn, c1, c6]; done))).symm (by rfl)
    · refine G.iconst hX (v := 1) (by decide) dX3_isSheet_9 ?_
      refine G.goto hX (tgt := 14) (by decide) dX3_isSheet_10 ?_
      exact G.zret hX hQ rfl dX3_isSheet_14 (bI_1.mpr (by first | rfl | (simp only [cIn, c1, c6, ↓reduceIte, Bool.not_true, Bool.not_false, Bool.and_true, Bool.true_and, Bool.and_false, Bool.false_and, Bool.or_true, Bool.true_or, Bool.or_false, Bool.false_or, decide_true, decide_false, not_true_eq_false, not_false_eq_true, Bool.false_eq_true, Bool.true_eq_false]; done) | (simp only [cIn, c1, c6, ↓reduceIte, Bool.not_true, Bool.not_false, Bool.and_true, Bool.true_and, Bool.and_false, Bool.false_and, Bool.or_true, Bool.true_or, Bool.or_false, Bool.false_or, decide_true, decide_false, not_true_eq_false, not_false_eq_true, Bool.false_eq_true, Bool.true_eq_false]; rfl) | (simp [cIn, c1, c6]; done))).symm (by rfl)
abbrev rmX3_isAge : Room := { frames := 0, cells := 0, slots := 0, locals := 0 }
theorem cp_X3_isAge : CP yX3_isAge RX3 wsX3_isAge 1 1 rmX3_isAge := ⟨⟨_, _, _, rfl⟩, rfl, rfl, by decide +kernel⟩
set_option maxHeartbeats 4000000 in
set_option maxRecDepth 100000 in
theorem c_X3_isAgen (l : Launch) (E : EV) (x : Nat) (h1 : x < 1000) : CI l yX3_isAge wsX3_isAge rmX3_isAge E [.int (nI x)] [] [] 1 := by
  refine CI.of (own := RX3) (cc := cX3_isAge) (nL := 1) (rt := (some .boolean)) (by decide) rfl rfl (Nat.le_of_ble_eq_true rfl) (fun X hX hQ => ?_)
  show G E X 1 0 [(0, .int (nI x))] [] []
  refine G.iload_n hX 0 rfl dX3_isAge_0 ?_
  refine G.if_lt hX (tgt := 15) (by decide) dX3_isAge_1 (fun c1 => absurd c1 (nI_pos (by omega))) (fun _ => ?_)
  refine G.iload_n hX 0 rfl dX3_isAge_4 ?_
  refine G.sipush hX (v := 999) (by decide) dX3_isAge_5 ?_
  refine G.n_gt hX (a := x) (b := 999) (tgt := 15) (by omega) (by omega) (by decide) dX3_isAge_8 (fun c8 => ?_) (fun c8 => ?_)
  · exact absurd h1 (by omega)
  · refine G.iconst hX (v := 1) (by decide) dX3_isAge_11 ?_
    refine G.goto hX (tgt := 16) (by decide) dX3_isAge_12 ?_
    exact G.zret hX hQ rfl dX3_isAge_16 (by rfl) (by rfl)
set_option maxHeartbeats 4000000 in
set_option maxRecDepth 100000 in
theorem c_X3_isAge (l : Launch) (E : EV) (x : Int32)  : CI l yX3_isAge wsX3_isAge rmX3_isAge E [.int x] [] [] (bI (cAg x)) := by
  refine CI.of (own := RX3) (cc := cX3_isAge) (nL := 1) (rt := (some .boolean)) (by decide) rfl rfl (Nat.le_of_ble_eq_true rfl) (fun X hX hQ => ?_)
  show G E X 1 0 [(0, .int x)] [] []
  refine G.iload_n hX 0 rfl dX3_isAge_0 ?_
  refine G.if_lt hX (tgt := 15) (by decide) dX3_isAge_1 (fun c1 => ?_) (fun c1 => ?_)
  · refine G.iconst hX (v := 0) (by decide) dX3_isAge_15 ?_
    exact G.zret hX hQ rfl dX3_isAge_16 (bI_0.mpr (by first | rfl | (simp only [cAg, c1, ↓reduceIte, Bool.not_true, Bool.not_false, Bool.and_true, Bool.true_and, Bool.and_false, Bool.false_and, Bool.or_true, Bool.true_or, Bool.or_false, Bool.false_or, decide_true, decide_false, not_true_eq_false, not_false_eq_true, Bool.false_eq_true, Bool.true_eq_false]; done) | (simp only [cAg, c1, ↓reduceIte, Bool.not_true, Bool.not_false, Bool.and_true, Bool.true_and, Bool.and_false, Bool.false_and, Bool.or_true, Bool.true_or, Bool.or_false, Bool.false_or, decide_true, decide_false, not_true_eq_false, not_false_eq_true, Bool.false_eq_true, Bool.true_eq_false]; rfl) | (simp [cAg, c1]; done))).symm (by rfl)
  · refine G.iload_n hX 0 rfl dX3_isAge_4 ?_
    refine G.sipush hX (v := 999) (by decide) dX3_isAge_5 ?_
    refine G.icmp_gt hX (tgt := 15) (by decide) dX3_isAge_8 (fun c8 => ?_) (fun c8 => ?_)
    · refine G.iconst hX (v := 0) (by decide) dX3_isAge_15 ?_
      exact G.zret hX hQ rfl dX3_isAge_16 (bI_0.mpr (by first | rfl | (simp only [cAg, c1, c8, ↓reduceIte, Bool.not_true, Bool.not_false, Bool.and_true, Bool.true_and, Bool.and_false, Bool.false_and, Bool.or_true, Bool.true_or, Bool.or_false, Bool.false_or, decide_true, decide_false, not_true_eq_false, not_false_eq_true, Bool.false_eq_true, Bool.true_eq_false]; done) | (simp only [cAg, c1, c8, ↓reduceIte, Bool.not_true, Bool.not_false, Bool.and_true, Bool.true_and, Bool.and_false, Bool.false_and, Bool.or_true, Bool.true_or, Bool.or_false, Bool.false_or, decide_true, decide_false, not_true_eq_false, not_false_eq_true, Bool.false_eq_true, Bool.true_eq_false]; rfl) | (simp [cAg, c1, c8]; done))).symm (by rfl)
    · refine G.iconst hX (v := 1) (by decide) dX3_isAge_11 ?_
      refine G.goto hX (tgt := 16) (by decide) dX3_isAge_12 ?_
      exact G.zret hX hQ rfl dX3_isAge_16 (bI_1.mpr (by first | rfl | (simp only [cAg, c1, c8, ↓reduceIte, Bool.not_true, Bool.not_false, Bool.and_true, Bool.true_and, Bool.and_false, Bool.false_and, Bool.or_true, Bool.true_or, Bool.or_false, Bool.false_or, decide_true, decide_false, not_true_eq_false, not_false_eq_true, Bool.false_eq_true, Bool.true_eq_false]; done) | (simp only [cAg, c1, c8, ↓reduceIte, Bool.not_true, Bool.not_false, Bool.and_true, Bool.true_and, Bool.and_false, Bool.false_and, Bool.or_true, Bool.true_or, Bool.or_false, Bool.false_or, decide_true, decide_false, not_true_eq_false, not_false_eq_true, Bool.false_eq_true, Bool.true_eq_false]; rfl) | (simp [cAg, c1, c8]; done))).symm (by rfl)
abbrev rmX3_isWidth : Room := { frames := 0, cells := 0, slots := 0, locals := 0 }
theorem cp_X3_isWidth : CP yX3_isWidth RX3 wsX3_isWidth 1 1 rmX3_isWidth := ⟨⟨_, _, _, rfl⟩, rfl, rfl, by decide +kernel⟩
set_option maxHeartbeats 4000000 in
set_option maxRecDepth 100000 in
theorem c_X3_isWidth (l : Launch) (E : EV) (b : Int32)  : CI l yX3_isWidth wsX3_isWidth rmX3_isWidth E [.int b] [] [] (bI (okB b)) := by
  refine CI.of (own := RX3) (cc := cX3_isWidth) (nL := 1) (rt := (some .boolean)) (by decide) rfl rfl (Nat.le_of_ble_eq_true rfl) (fun X hX hQ => ?_)
  show G E X 1 0 [(0, .int b)] [] []
  refine G.iload_n hX 0 rfl dX3_isWidth_0 ?_
  refine G.if_eq hX (tgt := 22) (by decide) dX3_isWidth_1 (fun c1 => ?_) (fun c1 => ?_)
  · refine G.iconst hX (v := 1) (by decide) dX3_isWidth_22 ?_
    refine G.goto hX (tgt := 27) (by decide) dX3_isWidth_23 ?_
    exact G.zret hX hQ rfl dX3_isWidth_27 (bI_1.mpr (by first | rfl | (simp only [okB, c1, ↓reduceIte, Bool.not_true, Bool.not_false, Bool.and_true, Bool.true_and, Bool.and_false, Bool.false_and, Bool.or_true, Bool.true_or, Bool.or_false, Bool.false_or, decide_true, decide_false, not_true_eq_false, not_false_eq_true, Bool.false_eq_true, Bool.true_eq_false]; done) | (simp only [okB, c1, ↓reduceIte, Bool.not_true, Bool.not_false, Bool.and_true, Bool.true_and, Bool.and_false, Bool.false_and, Bool.or_true, Bool.true_or, Bool.or_false, Bool.false_or, decide_true, decide_false, not_true_eq_false, not_false_eq_true, Bool.false_eq_true, Bool.true_eq_false]; rfl) | (simp [okB, c1]; done))).symm (by rfl)
  · refine G.iload_n hX 0 rfl dX3_isWidth_4 ?_
    refine G.bipush hX (v := 8) (by decide) dX3_isWidth_5 ?_
    refine G.icmp_eq hX (tgt := 22) (by decide) dX3_isWidth_7 (fun c7 => ?_) (fun c7 => ?_)
    · refine G.iconst hX (v := 1) (by decide) dX3_isWidth_22 ?_
      refine G.goto hX (tgt := 27) (by decide) dX3_isWidth_23 ?_
      exact G.zret hX hQ rfl dX3_isWidth_27 (bI_1.mpr (by first | rfl | (simp only [okB, c1, c7, ↓reduceIte, Bool.not_true, Bool.not_false, Bool.and_true, Bool.true_and, Bool.and_false, Bool.false_and, Bool.or_true, Bool.true_or, Bool.or_false, Bool.false_or, decide_true, decide_false, not_true_eq_false, not_false_eq_true, Bool.false_eq_true, Bool.true_eq_false]; done) | (simp only [okB, c1, c7, ↓reduceIte, Bool.not_true, Bool.not_false, Bool.and_true, Bool.true_and, Bool.and_false, Bool.false_and, Bool.or_true, Bool.true_or, Bool.or_false, Bool.false_or, decide_true, decide_false, not_true_eq_false, not_false_eq_true, Bool.false_eq_true, Bool.true_eq_false]; rfl) | (simp [okB, c1, c7]; done))).symm (by rfl)
    · refine G.iload_n hX 0 rfl dX3_isWidth_10 ?_
      refine G.bipush hX (v := 16) (by decide) dX3_isWidth_11 ?_
      refine G.icmp_eq hX (tgt := 22) (by decide) dX3_isWidth_13 (fun c13 => ?_) (fun c13 => ?_)
      · refine G.iconst hX (v := 1) (by decide) dX3_isWidth_22 ?_
        refine G.goto hX (tgt := 27) (by decide) dX3_isWidth_23 ?_
        exact G.zret hX hQ rfl dX3_isWidth_27 (bI_1.mpr (by first | rfl | (simp only [okB, c1, c7, c13, ↓reduceIte, Bool.not_true, Bool.not_false, Bool.and_true, Bool.true_and, Bool.and_false, Bool.false_and, Bool.or_true, Bool.true_or, Bool.or_false, Bool.false_or, decide_true, decide_false, not_true_eq_false, not_false_eq_true, Bool.false_eq_true, Bool.true_eq_false]; done) | (simp only [okB, c1, c7, c13, ↓reduceIte, Bool.not_true, Bool.not_false, Bool.and_true, Bool.true_and, Bool.and_false, Bool.false_and, Bool.or_true, Bool.true_or, Bool.or_false, Bool.false_or, decide_true, decide_false, not_true_eq_false, not_false_eq_true, Bool.false_eq_true, Bool.true_eq_false]; rfl) | (simp [okB, c1, c7, c13]; done))).symm (by rfl)
      · refine G.iload_n hX 0 rfl dX3_isWidth_16 ?_
        refine G.bipush hX (v := 64) (by decide) dX3_isWidth_17 ?_
        refine G.icmp_ne hX (tgt := 26) (by decide) dX3_isWidth_19 (fun c19 => ?_) (fun c19 => ?_)
        · refine G.iconst hX (v := 0) (by decide) dX3_isWidth_26 ?_
          exact G.zret hX hQ rfl dX3_isWidth_27 (bI_0.mpr (by first | rfl | (simp only [okB, c1, c7, c13, c19, ↓reduceIte, Bool.not_true, Bool.not_false, Bool.and_true, Bool.true_and, Bool.and_false, Bool.false_and, Bool.or_true, Bool.true_or, Bool.or_false, Bool.false_or, decide_true, decide_false, not_true_eq_false, not_false_eq_true, Bool.false_eq_true, Bool.true_eq_false]; done) | (simp only [okB, c1, c7, c13, c19, ↓reduceIte, Bool.not_true, Bool.not_false, Bool.and_true, Bool.true_and, Bool.and_false, Bool.false_and, Bool.or_true, Bool.true_or, Bool.or_false, Bool.false_or, decide_true, decide_false, not_true_eq_false, not_false_eq_true, Bool.false_eq_true, Bool.true_eq_false]; rfl) | (simp [okB, c1, c7, c13, c19]; done))).symm (by rfl)
        · refine G.iconst hX (v := 1) (by decide) dX3_isWidth_22 ?_
          refine G.goto hX (tgt := 27) (by decide) dX3_isWidth_23 ?_
          exact G.zret hX hQ rfl dX3_isWidth_27 (bI_1.mpr (by first | rfl | (simp only [okB, c1, c7, c13, c19, ↓reduceIte, Bool.not_true, Bool.not_false, Bool.and_true, Bool.true_and, Bool.and_false, Bool.false_and, Bool.or_true, Bool.true_or, Bool.or_false, Bool.false_or, decide_true, decide_false, not_true_eq_false, not_false_eq_true, Bool.false_eq_true, Bool.true_eq_false]; done) | (simp only [okB, c1, c7, c13, c19, ↓reduceIte, Bool.not_true, Bool.not_false, Bool.and_true, Bool.true_and, Bool.and_false, Bool.false_and, Bool.or_true, Bool.true_or, Bool.or_false, Bool.false_or, decide_true, decide_false, not_true_eq_false, not_false_eq_true, Bool.false_eq_true, Bool.true_eq_false]; rfl) | (simp [okB, c1, c7, c13, c19]; done))).symm (by rfl)
abbrev rmX3_isUnder : Room := { frames := 0, cells := 0, slots := 0, locals := 0 }
theorem cp_X3_isUnder : CP yX3_isUnder RX3 wsX3_isUnder 2 2 rmX3_isUnder := ⟨⟨_, _, _, rfl⟩, rfl, rfl, by decide +kernel⟩
set_option maxHeartbeats 4000000 in
set_option maxRecDepth 100000 in
theorem c_X3_isUnder (l : Launch) (E : EV) (x : Int32) (y : Int32)  : CI l yX3_isUnder wsX3_isUnder rmX3_isUnder E [.int x, .int y] [] [] (bI (cU x y)) := by
  refine CI.of (own := RX3) (cc := cX3_isUnder) (nL := 2) (rt := (some .boolean)) (by decide) rfl rfl (Nat.le_of_ble_eq_true rfl) (fun X hX hQ => ?_)
  show G E X 2 0 [(0, .int x), (1, .int y)] [] []
  refine G.iload_n hX 1 rfl dX3_isUnder_0 ?_
  refine G.if_eq hX (tgt := 29) (by decide) dX3_isUnder_1 (fun c1 => ?_) (fun c1 => ?_)
  · refine G.iconst hX (v := 1) (by decide) dX3_isUnder_29 ?_
    refine G.goto hX (tgt := 34) (by decide) dX3_isUnder_30 ?_
    exact G.zret hX hQ rfl dX3_isUnder_34 (by first | (simp [cU, bI, c1]; done) | exact absurd (c11.symm.trans c21) (by decide) | (rw [c11] at c6; simp [cU, bI, c1, c11, c16, c6]; done) | (rw [c21] at c6; simp [cU, bI, c1, c21, c26, c6]; done)) (by rfl)
  · refine G.iload_n hX 0 rfl dX3_isUnder_4 ?_
    refine G.iload_n hX 1 rfl dX3_isUnder_5 ?_
    refine G.icmp_eq hX (tgt := 29) (by decide) dX3_isUnder_6 (fun c6 => ?_) (fun c6 => ?_)
    · refine G.iconst hX (v := 1) (by decide) dX3_isUnder_29 ?_
      refine G.goto hX (tgt := 34) (by decide) dX3_isUnder_30 ?_
      exact G.zret hX hQ rfl dX3_isUnder_34 (by first | (simp [cU, bI, c1, c6]; done) | exact absurd (c11.symm.trans c21) (by decide) | (rw [c11] at c6; simp [cU, bI, c1, c11, c16, c6]; done) | (rw [c21] at c6; simp [cU, bI, c1, c21, c26, c6]; done)) (by rfl)
    · refine G.iload_n hX 0 rfl dX3_isUnder_9 ?_
      refine G.iconst hX (v := 4) (by decide) dX3_isUnder_10 ?_
      refine G.icmp_ne hX (tgt := 19) (by decide) dX3_isUnder_11 (fun c11 => ?_) (fun c11 => ?_)
      · refine G.iload_n hX 0 rfl dX3_isUnder_19 ?_
        refine G.iconst hX (v := 5) (by decide) dX3_isUnder_20 ?_
        refine G.icmp_ne hX (tgt := 33) (by decide) dX3_isUnder_21 (fun c21 => ?_) (fun c21 => ?_)
        · refine G.iconst hX (v := 0) (by decide) dX3_isUnder_33 ?_
          exact G.zret hX hQ rfl dX3_isUnder_34 (by first | (simp [cU, bI, c1, c6, c11, c21]; done) | exact absurd (c11.symm.trans c21) (by decide) | (rw [c11] at c6; simp [cU, bI, c1, c11, c16, c6]; done) | (rw [c21] at c6; simp [cU, bI, c1, c21, c26, c6]; done)) (by rfl)
        · refine G.iload_n hX 1 rfl dX3_isUnder_24 ?_
          refine G.iconst hX (v := 2) (by decide) dX3_isUnder_25 ?_
          refine G.icmp_ne hX (tgt := 33) (by decide) dX3_isUnder_26 (fun c26 => ?_) (fun c26 => ?_)
          · refine G.iconst hX (v := 0) (by decide) dX3_isUnder_33 ?_
            exact G.zret hX hQ rfl dX3_isUnder_34 (by first | (simp [cU, bI, c1, c6, c11, c21, c26]; done) | exact absurd (c11.symm.trans c21) (by decide) | (rw [c11] at c6; simp [cU, bI, c1, c11, c16, c6]; done) | (rw [c21] at c6; simp [cU, bI, c1, c21, c26, c6]; done)) (by rfl)
          · refine G.iconst hX (v := 1) (by decide) dX3_isUnder_29 ?_
            refine G.goto hX (tgt := 34) (by decide) dX3_isUnder_30 ?_
            exact G.zret hX hQ rfl dX3_isUnder_34 (by first | (simp [cU, bI, c1, c6, c11, c21, c26]; done) | exact absurd (c11.symm.trans c21) (by decide) | (rw [c11] at c6; simp [cU, bI, c1, c11, c16, c6]; done) | (rw [c21] at c6; simp [cU, bI, c1, c21, c26, c6]; done)) (by rfl)
      · refine G.iload_n hX 1 rfl dX3_isUnder_14 ?_
        refine G.iconst hX (v := 1) (by decide) dX3_isUnder_15 ?_
        refine G.icmp_eq hX (tgt := 29) (by decide) dX3_isUnder_16 (fun c16 => ?_) (fun c16 => ?_)
        · refine G.iconst hX (v := 1) (by decide) dX3_isUnder_29 ?_
          refine G.goto hX (tgt := 34) (by decide) dX3_isUnder_30 ?_
          exact G.zret hX hQ rfl dX3_isUnder_34 (by first | (simp [cU, bI, c1, c6, c11, c16]; done) | exact absurd (c11.symm.trans c21) (by decide) | (rw [c11] at c6; simp [cU, bI, c1, c11, c16, c6]; done) | (rw [c21] at c6; simp [cU, bI, c1, c21, c26, c6]; done)) (by rfl)
        · refine G.iload_n hX 0 rfl dX3_isUnder_19 ?_
          refine G.iconst hX (v := 5) (by decide) dX3_isUnder_20 ?_
          refine G.icmp_ne hX (tgt := 33) (by decide) dX3_isUnder_21 (fun c21 => ?_) (fun c21 => ?_)
          · refine G.iconst hX (v := 0) (by decide) dX3_isUnder_33 ?_
            exact G.zret hX hQ rfl dX3_isUnder_34 (by first | (simp [cU, bI, c1, c6, c11, c16, c21]; done) | exact absurd (c11.symm.trans c21) (by decide) | (rw [c11] at c6; simp [cU, bI, c1, c11, c16, c6]; done) | (rw [c21] at c6; simp [cU, bI, c1, c21, c26, c6]; done)) (by rfl)
          · refine G.iload_n hX 1 rfl dX3_isUnder_24 ?_
            refine G.iconst hX (v := 2) (by decide) dX3_isUnder_25 ?_
            refine G.icmp_ne hX (tgt := 33) (by decide) dX3_isUnder_26 (fun c26 => ?_) (fun c26 => ?_)
            · refine G.iconst hX (v := 0) (by decide) dX3_isUnder_33 ?_
              exact G.zret hX hQ rfl dX3_isUnder_34 (by first | (simp [cU, bI, c1, c6, c11, c16, c21, c26]; done) | exact absurd (c11.symm.trans c21) (by decide) | (rw [c11] at c6; simp [cU, bI, c1, c11, c16, c6]; done) | (rw [c21] at c6; simp [cU, bI, c1, c21, c26, c6]; done)) (by rfl)
            · refine G.iconst hX (v := 1) (by decide) dX3_isUnder_29 ?_
              refine G.goto hX (tgt := 34) (by decide) dX3_isUnder_30 ?_
              exact G.zret hX hQ rfl dX3_isUnder_34 (by first | (simp [cU, bI, c1, c6, c11, c16, c21, c26]; done) | exact absurd (c11.symm.trans c21) (by decide) | (rw [c11] at c6; simp [cU, bI, c1, c11, c16, c6]; done) | (rw [c21] at c6; simp [cU, bI, c1, c21, c26, c6]; done)) (by rfl)
abbrev rmX3_finding : Room := { frames := 0, cells := 0, slots := 0, locals := 0 }
theorem cp_X3_finding : CP yX3_finding RX3 wsX3_finding 2 1 rmX3_finding := ⟨⟨_, _, _, rfl⟩, rfl, rfl, by decide +kernel⟩
theorem inc_X3_finding_3 : ∀ w ∈ u_ws RX3 TX3 9, w ∈ wsX3_finding := by decide +kernel
set_option maxHeartbeats 4000000 in
set_option maxRecDepth 100000 in
theorem c_X3_finding0 (l : Launch) (E : EV) (ox : Nat → Nat) (rr : Nat → Nat) (rk : Nat → Nat) (rt : Nat → Nat) (rb : Nat → Nat) (xt : Nat → Nat) (kp : Int32) (fo : Nat → Int32)  : CI l yX3_finding wsX3_finding rmX3_finding E [.ref (ox 0), .int 0] [(ox 0, noO ox rr rk rt rb xt kp), (ox 3, arI E 7 fo)] [(ox 0, noO ox rr rk rt rb xt kp), (ox 3, arI E 7 (upd fo 0 (fo 0 + 1)))] ((-1000000001)) := by
  refine CI.of (own := RX3) (cc := cX3_finding) (nL := 2) (rt := (some .int)) (by decide) rfl rfl (Nat.le_of_ble_eq_true rfl) (fun X hX hQ => ?_)
  show G E X 2 0 [(0, .ref (ox 0)), (1, .int 0)] [] [(ox 0, noO ox rr rk rt rb xt kp), (ox 3, arI E 7 fo)]
  refine G.aload_n hX 0 rfl dX3_finding_0 ?_
  refine G.get hX inc_X3_finding_3 0 rfl rfl 7 (by decide) (by decide +kernel) rfl dX3_finding_1 ?_
  refine G.iload_n hX 1 rfl dX3_finding_4 ?_
  refine G.dup2 hX rfl rfl dX3_finding_5 ?_
  refine G.iald hX (j := 0) 1 rfl (by omega) (by omega) dX3_finding_6 ?_
  refine G.iconst hX (v := 1) (by decide) dX3_finding_7 ?_
  refine G.iadd hX dX3_finding_8 ?_
  refine G.iast hX (j := 0) (ws' := [(ox 0, noO ox rr rk rt rb xt kp), (ox 3, arI E 7 (upd fo 0 ((fo 0) + 1)))]) 1 rfl (by omega) (by omega) rfl rfl dX3_finding_9 ?_
  refine G.ldc hX (v := -1000000001) (by decide +kernel) dX3_finding_10 ?_
  refine G.iload_n hX 1 rfl dX3_finding_12 ?_
  refine G.isub hX dX3_finding_13 ?_
  refine G.ie (y := -1000000001) (by decide) ?_
  exact G.iret hX hQ dX3_finding_14 (by rfl) (by first | rfl | (simp only [↓reduceIte, Bool.not_true, Bool.not_false, Bool.and_true, Bool.true_and, Bool.and_false, Bool.false_and, Bool.or_true, Bool.true_or, Bool.or_false, Bool.false_or, decide_true, decide_false, not_true_eq_false, not_false_eq_true, Bool.false_eq_true, Bool.true_eq_false]; done) | (simp only [↓reduceIte, Bool.not_true, Bool.not_false, Bool.and_true, Bool.true_and, Bool.and_false, Bool.false_and, Bool.or_true, Bool.true_or, Bool.or_false, Bool.false_or, decide_true, decide_false, not_true_eq_false, not_false_eq_true, Bool.false_eq_true, Bool.true_eq_false]; rfl) | (simp []; done))
set_option maxHeartbeats 4000000 in
set_option maxRecDepth 100000 in
theorem c_X3_finding1 (l : Launch) (E : EV) (ox : Nat → Nat) (rr : Nat → Nat) (rk : Nat → Nat) (rt : Nat → Nat) (rb : Nat → Nat) (xt : Nat → Nat) (kp : Int32) (fo : Nat → Int32)  : CI l yX3_finding wsX3_finding rmX3_finding E [.ref (ox 0), .int 1] [(ox 0, noO ox rr rk rt rb xt kp), (ox 3, arI E 7 fo)] [(ox 0, noO ox rr rk rt rb xt kp), (ox 3, arI E 7 (upd fo 1 (fo 1 + 1)))] ((-1000000002)) := by
  refine CI.of (own := RX3) (cc := cX3_finding) (nL := 2) (rt := (some .int)) (by decide) rfl rfl (Nat.le_of_ble_eq_true rfl) (fun X hX hQ => ?_)
  show G E X 2 0 [(0, .ref (ox 0)), (1, .int 1)] [] [(ox 0, noO ox rr rk rt rb xt kp), (ox 3, arI E 7 fo)]
  refine G.aload_n hX 0 rfl dX3_finding_0 ?_
  refine G.get hX inc_X3_finding_3 0 rfl rfl 7 (by decide) (by decide +kernel) rfl dX3_finding_1 ?_
  refine G.iload_n hX 1 rfl dX3_finding_4 ?_
  refine G.dup2 hX rfl rfl dX3_finding_5 ?_
  refine G.iald hX (j := 1) 1 rfl (by omega) (by omega) dX3_finding_6 ?_
  refine G.iconst hX (v := 1) (by decide) dX3_finding_7 ?_
  refine G.iadd hX dX3_finding_8 ?_
  refine G.iast hX (j := 1) (ws' := [(ox 0, noO ox rr rk rt rb xt kp), (ox 3, arI E 7 (upd fo 1 ((fo 1) + 1)))]) 1 rfl (by omega) (by omega) rfl rfl dX3_finding_9 ?_
  refine G.ldc hX (v := -1000000001) (by decide +kernel) dX3_finding_10 ?_
  refine G.iload_n hX 1 rfl dX3_finding_12 ?_
  refine G.isub hX dX3_finding_13 ?_
  refine G.ie (y := -1000000002) (by decide) ?_
  exact G.iret hX hQ dX3_finding_14 (by rfl) (by first | rfl | (simp only [↓reduceIte, Bool.not_true, Bool.not_false, Bool.and_true, Bool.true_and, Bool.and_false, Bool.false_and, Bool.or_true, Bool.true_or, Bool.or_false, Bool.false_or, decide_true, decide_false, not_true_eq_false, not_false_eq_true, Bool.false_eq_true, Bool.true_eq_false]; done) | (simp only [↓reduceIte, Bool.not_true, Bool.not_false, Bool.and_true, Bool.true_and, Bool.and_false, Bool.false_and, Bool.or_true, Bool.true_or, Bool.or_false, Bool.false_or, decide_true, decide_false, not_true_eq_false, not_false_eq_true, Bool.false_eq_true, Bool.true_eq_false]; rfl) | (simp []; done))
set_option maxHeartbeats 4000000 in
set_option maxRecDepth 100000 in
theorem c_X3_finding2 (l : Launch) (E : EV) (ox : Nat → Nat) (rr : Nat → Nat) (rk : Nat → Nat) (rt : Nat → Nat) (rb : Nat → Nat) (xt : Nat → Nat) (kp : Int32) (fo : Nat → Int32)  : CI l yX3_finding wsX3_finding rmX3_finding E [.ref (ox 0), .int 2] [(ox 0, noO ox rr rk rt rb xt kp), (ox 3, arI E 7 fo)] [(ox 0, noO ox rr rk rt rb xt kp), (ox 3, arI E 7 (upd fo 2 (fo 2 + 1)))] ((-1000000003)) := by
  refine CI.of (own := RX3) (cc := cX3_finding) (nL := 2) (rt := (some .int)) (by decide) rfl rfl (Nat.le_of_ble_eq_true rfl) (fun X hX hQ => ?_)
  show G E X 2 0 [(0, .ref (ox 0)), (1, .int 2)] [] [(ox 0, noO ox rr rk rt rb xt kp), (ox 3, arI E 7 fo)]
  refine G.aload_n hX 0 rfl dX3_finding_0 ?_
  refine G.get hX inc_X3_finding_3 0 rfl rfl 7 (by decide) (by decide +kernel) rfl dX3_finding_1 ?_
  refine G.iload_n hX 1 rfl dX3_finding_4 ?_
  refine G.dup2 hX rfl rfl dX3_finding_5 ?_
  refine G.iald hX (j := 2) 1 rfl (by omega) (by omega) dX3_finding_6 ?_
  refine G.iconst hX (v := 1) (by decide) dX3_finding_7 ?_
  refine G.iadd hX dX3_finding_8 ?_
  refine G.iast hX (j := 2) (ws' := [(ox 0, noO ox rr rk rt rb xt kp), (ox 3, arI E 7 (upd fo 2 ((fo 2) + 1)))]) 1 rfl (by omega) (by omega) rfl rfl dX3_finding_9 ?_
  refine G.ldc hX (v := -1000000001) (by decide +kernel) dX3_finding_10 ?_
  refine G.iload_n hX 1 rfl dX3_finding_12 ?_
  refine G.isub hX dX3_finding_13 ?_
  refine G.ie (y := -1000000003) (by decide) ?_
  exact G.iret hX hQ dX3_finding_14 (by rfl) (by first | rfl | (simp only [↓reduceIte, Bool.not_true, Bool.not_false, Bool.and_true, Bool.true_and, Bool.and_false, Bool.false_and, Bool.or_true, Bool.true_or, Bool.or_false, Bool.false_or, decide_true, decide_false, not_true_eq_false, not_false_eq_true, Bool.false_eq_true, Bool.true_eq_false]; done) | (simp only [↓reduceIte, Bool.not_true, Bool.not_false, Bool.and_true, Bool.true_and, Bool.and_false, Bool.false_and, Bool.or_true, Bool.true_or, Bool.or_false, Bool.false_or, decide_true, decide_false, not_true_eq_false, not_false_eq_true, Bool.false_eq_true, Bool.true_eq_false]; rfl) | (simp []; done))
set_option maxHeartbeats 4000000 in
set_option maxRecDepth 100000 in
theorem c_X3_finding3 (l : Launch) (E : EV) (ox : Nat → Nat) (rr : Nat → Nat) (rk : Nat → Nat) (rt : Nat → Nat) (rb : Nat → Nat) (xt : Nat → Nat) (kp : Int32) (fo : Nat → Int32)  : CI l yX3_finding wsX3_finding rmX3_finding E [.ref (ox 0), .int 3] [(ox 0, noO ox rr rk rt rb xt kp), (ox 3, arI E 7 fo)] [(ox 0, noO ox rr rk rt rb xt kp), (ox 3, arI E 7 (upd fo 3 (fo 3 + 1)))] ((-1000000004)) := by
  refine CI.of (own := RX3) (cc := cX3_finding) (nL := 2) (rt := (some .int)) (by decide) rfl rfl (Nat.le_of_ble_eq_true rfl) (fun X hX hQ => ?_)
  show G E X 2 0 [(0, .ref (ox 0)), (1, .int 3)] [] [(ox 0, noO ox rr rk rt rb xt kp), (ox 3, arI E 7 fo)]
  refine G.aload_n hX 0 rfl dX3_finding_0 ?_
  refine G.get hX inc_X3_finding_3 0 rfl rfl 7 (by decide) (by decide +kernel) rfl dX3_finding_1 ?_
  refine G.iload_n hX 1 rfl dX3_finding_4 ?_
  refine G.dup2 hX rfl rfl dX3_finding_5 ?_
  refine G.iald hX (j := 3) 1 rfl (by omega) (by omega) dX3_finding_6 ?_
  refine G.iconst hX (v := 1) (by decide) dX3_finding_7 ?_
  refine G.iadd hX dX3_finding_8 ?_
  refine G.iast hX (j := 3) (ws' := [(ox 0, noO ox rr rk rt rb xt kp), (ox 3, arI E 7 (upd fo 3 ((fo 3) + 1)))]) 1 rfl (by omega) (by omega) rfl rfl dX3_finding_9 ?_
  refine G.ldc hX (v := -1000000001) (by decide +kernel) dX3_finding_10 ?_
  refine G.iload_n hX 1 rfl dX3_finding_12 ?_
  refine G.isub hX dX3_finding_13 ?_
  refine G.ie (y := -1000000004) (by decide) ?_
  exact G.iret hX hQ dX3_finding_14 (by rfl) (by first | rfl | (simp only [↓reduceIte, Bool.not_true, Bool.not_false, Bool.and_true, Bool.true_and, Bool.and_false, Bool.false_and, Bool.or_true, Bool.true_or, Bool.or_false, Bool.false_or, decide_true, decide_false, not_true_eq_false, not_false_eq_true, Bool.false_eq_true, Bool.true_eq_false]; done) | (simp only [↓reduceIte, Bool.not_true, Bool.not_false, Bool.and_true, Bool.true_and, Bool.and_false, Bool.false_and, Bool.or_true, Bool.true_or, Bool.or_false, Bool.false_or, decide_true, decide_false, not_true_eq_false, not_false_eq_true, Bool.false_eq_true, Bool.true_eq_false]; rfl) | (simp []; done))
set_option maxHeartbeats 4000000 in
set_option maxRecDepth 100000 in
theorem c_X3_finding4 (l : Launch) (E : EV) (ox : Nat → Nat) (rr : Nat → Nat) (rk : Nat → Nat) (rt : Nat → Nat) (rb : Nat → Nat) (xt : Nat → Nat) (kp : Int32) (fo : Nat → Int32)  : CI l yX3_finding wsX3_finding rmX3_finding E [.ref (ox 0), .int 4] [(ox 0, noO ox rr rk rt rb xt kp), (ox 3, arI E 7 fo)] [(ox 0, noO ox rr rk rt rb xt kp), (ox 3, arI E 7 (upd fo 4 (fo 4 + 1)))] ((-1000000005)) := by
  refine CI.of (own := RX3) (cc := cX3_finding) (nL := 2) (rt := (some .int)) (by decide) rfl rfl (Nat.le_of_ble_eq_true rfl) (fun X hX hQ => ?_)
  show G E X 2 0 [(0, .ref (ox 0)), (1, .int 4)] [] [(ox 0, noO ox rr rk rt rb xt kp), (ox 3, arI E 7 fo)]
  refine G.aload_n hX 0 rfl dX3_finding_0 ?_
  refine G.get hX inc_X3_finding_3 0 rfl rfl 7 (by decide) (by decide +kernel) rfl dX3_finding_1 ?_
  refine G.iload_n hX 1 rfl dX3_finding_4 ?_
  refine G.dup2 hX rfl rfl dX3_finding_5 ?_
  refine G.iald hX (j := 4) 1 rfl (by omega) (by omega) dX3_finding_6 ?_
  refine G.iconst hX (v := 1) (by decide) dX3_finding_7 ?_
  refine G.iadd hX dX3_finding_8 ?_
  refine G.iast hX (j := 4) (ws' := [(ox 0, noO ox rr rk rt rb xt kp), (ox 3, arI E 7 (upd fo 4 ((fo 4) + 1)))]) 1 rfl (by omega) (by omega) rfl rfl dX3_finding_9 ?_
  refine G.ldc hX (v := -1000000001) (by decide +kernel) dX3_finding_10 ?_
  refine G.iload_n hX 1 rfl dX3_finding_12 ?_
  refine G.isub hX dX3_finding_13 ?_
  refine G.ie (y := -1000000005) (by decide) ?_
  exact G.iret hX hQ dX3_finding_14 (by rfl) (by first | rfl | (simp only [↓reduceIte, Bool.not_true, Bool.not_false, Bool.and_true, Bool.true_and, Bool.and_false, Bool.false_and, Bool.or_true, Bool.true_or, Bool.or_false, Bool.false_or, decide_true, decide_false, not_true_eq_false, not_false_eq_true, Bool.false_eq_true, Bool.true_eq_false]; done) | (simp only [↓reduceIte, Bool.not_true, Bool.not_false, Bool.and_true, Bool.true_and, Bool.and_false, Bool.false_and, Bool.or_true, Bool.true_or, Bool.or_false, Bool.false_or, decide_true, decide_false, not_true_eq_false, not_false_eq_true, Bool.false_eq_true, Bool.true_eq_false]; rfl) | (simp []; done))
set_option maxHeartbeats 4000000 in
set_option maxRecDepth 100000 in
theorem c_X3_finding5 (l : Launch) (E : EV) (ox : Nat → Nat) (rr : Nat → Nat) (rk : Nat → Nat) (rt : Nat → Nat) (rb : Nat → Nat) (xt : Nat → Nat) (kp : Int32) (fo : Nat → Int32)  : CI l yX3_finding wsX3_finding rmX3_finding E [.ref (ox 0), .int 5] [(ox 0, noO ox rr rk rt rb xt kp), (ox 3, arI E 7 fo)] [(ox 0, noO ox rr rk rt rb xt kp), (ox 3, arI E 7 (upd fo 5 (fo 5 + 1)))] ((-1000000006)) := by
  refine CI.of (own := RX3) (cc := cX3_finding) (nL := 2) (rt := (some .int)) (by decide) rfl rfl (Nat.le_of_ble_eq_true rfl) (fun X hX hQ => ?_)
  show G E X 2 0 [(0, .ref (ox 0)), (1, .int 5)] [] [(ox 0, noO ox rr rk rt rb xt kp), (ox 3, arI E 7 fo)]
  refine G.aload_n hX 0 rfl dX3_finding_0 ?_
  refine G.get hX inc_X3_finding_3 0 rfl rfl 7 (by decide) (by decide +kernel) rfl dX3_finding_1 ?_
  refine G.iload_n hX 1 rfl dX3_finding_4 ?_
  refine G.dup2 hX rfl rfl dX3_finding_5 ?_
  refine G.iald hX (j := 5) 1 rfl (by omega) (by omega) dX3_finding_6 ?_
  refine G.iconst hX (v := 1) (by decide) dX3_finding_7 ?_
  refine G.iadd hX dX3_finding_8 ?_
  refine G.iast hX (j := 5) (ws' := [(ox 0, noO ox rr rk rt rb xt kp), (ox 3, arI E 7 (upd fo 5 ((fo 5) + 1)))]) 1 rfl (by omega) (by omega) rfl rfl dX3_finding_9 ?_
  refine G.ldc hX (v := -1000000001) (by decide +kernel) dX3_finding_10 ?_
  refine G.iload_n hX 1 rfl dX3_finding_12 ?_
  refine G.isub hX dX3_finding_13 ?_
  refine G.ie (y := -1000000006) (by decide) ?_
  exact G.iret hX hQ dX3_finding_14 (by rfl) (by first | rfl | (simp only [↓reduceIte, Bool.not_true, Bool.not_false, Bool.and_true, Bool.true_and, Bool.and_false, Bool.false_and, Bool.or_true, Bool.true_or, Bool.or_false, Bool.false_or, decide_true, decide_false, not_true_eq_false, not_false_eq_true, Bool.false_eq_true, Bool.true_eq_false]; done) | (simp only [↓reduceIte, Bool.not_true, Bool.not_false, Bool.and_true, Bool.true_and, Bool.and_false, Bool.false_and, Bool.or_true, Bool.true_or, Bool.or_false, Bool.false_or, decide_true, decide_false, not_true_eq_false, not_false_eq_true, Bool.false_eq_true, Bool.true_eq_false]; rfl) | (simp []; done))
set_option maxHeartbeats 4000000 in
set_option maxRecDepth 100000 in
theorem c_X3_finding6 (l : Launch) (E : EV) (ox : Nat → Nat) (rr : Nat → Nat) (rk : Nat → Nat) (rt : Nat → Nat) (rb : Nat → Nat) (xt : Nat → Nat) (kp : Int32) (fo : Nat → Int32)  : CI l yX3_finding wsX3_finding rmX3_finding E [.ref (ox 0), .int 6] [(ox 0, noO ox rr rk rt rb xt kp), (ox 3, arI E 7 fo)] [(ox 0, noO ox rr rk rt rb xt kp), (ox 3, arI E 7 (upd fo 6 (fo 6 + 1)))] ((-1000000007)) := by
  refine CI.of (own := RX3) (cc := cX3_finding) (nL := 2) (rt := (some .int)) (by decide) rfl rfl (Nat.le_of_ble_eq_true rfl) (fun X hX hQ => ?_)
  show G E X 2 0 [(0, .ref (ox 0)), (1, .int 6)] [] [(ox 0, noO ox rr rk rt rb xt kp), (ox 3, arI E 7 fo)]
  refine G.aload_n hX 0 rfl dX3_finding_0 ?_
  refine G.get hX inc_X3_finding_3 0 rfl rfl 7 (by decide) (by decide +kernel) rfl dX3_finding_1 ?_
  refine G.iload_n hX 1 rfl dX3_finding_4 ?_
  refine G.dup2 hX rfl rfl dX3_finding_5 ?_
  refine G.iald hX (j := 6) 1 rfl (by omega) (by omega) dX3_finding_6 ?_
  refine G.iconst hX (v := 1) (by decide) dX3_finding_7 ?_
  refine G.iadd hX dX3_finding_8 ?_
  refine G.iast hX (j := 6) (ws' := [(ox 0, noO ox rr rk rt rb xt kp), (ox 3, arI E 7 (upd fo 6 ((fo 6) + 1)))]) 1 rfl (by omega) (by omega) rfl rfl dX3_finding_9 ?_
  refine G.ldc hX (v := -1000000001) (by decide +kernel) dX3_finding_10 ?_
  refine G.iload_n hX 1 rfl dX3_finding_12 ?_
  refine G.isub hX dX3_finding_13 ?_
  refine G.ie (y := -1000000007) (by decide) ?_
  exact G.iret hX hQ dX3_finding_14 (by rfl) (by first | rfl | (simp only [↓reduceIte, Bool.not_true, Bool.not_false, Bool.and_true, Bool.true_and, Bool.and_false, Bool.false_and, Bool.or_true, Bool.true_or, Bool.or_false, Bool.false_or, decide_true, decide_false, not_true_eq_false, not_false_eq_true, Bool.false_eq_true, Bool.true_eq_false]; done) | (simp only [↓reduceIte, Bool.not_true, Bool.not_false, Bool.and_true, Bool.true_and, Bool.and_false, Bool.false_and, Bool.or_true, Bool.true_or, Bool.or_false, Bool.false_or, decide_true, decide_false, not_true_eq_false, not_false_eq_true, Bool.false_eq_true, Bool.true_eq_false]; rfl) | (simp []; done))
abbrev rmX3_suppose : Room := { frames := 2, cells := 0, slots := 0, locals := 101 }
theorem cp_X3_suppose : CP yX3_suppose RX3 wsX3_suppose 1 0 rmX3_suppose := ⟨⟨_, _, _, rfl⟩, rfl, rfl, by decide +kernel⟩
theorem inc_X3_suppose_3 : ∀ w ∈ u_ws RX3 TX3 9, w ∈ wsX3_suppose := by decide +kernel
set_option maxHeartbeats 4000000 in
set_option maxRecDepth 100000 in
theorem c_X3_suppose (l : Launch) (E : EV) (r : AV) (tr : AV) (ox : Nat → Nat) (rr : Nat → Nat) (rk : Nat → Nat) (rt : Nat → Nat) (rb : Nat → Nat) (xt : Nat → Nat) (kp : Int32)  : CV l yX3_suppose wsX3_suppose rmX3_suppose E [.ref (ox 0)] [(ox 0, noO ox rr rk rt rb xt kp), (rr 0, avO rr r.1 r.2.1), (rr 1, arI E 12 r.2.2.1), (rr 2, arI E 12 r.2.2.2.1), (rr 3, arI E 12 r.2.2.2.2.1), (rr 4, arI E 96 r.2.2.2.2.2), (rt 0, avO rt tr.1 tr.2.1), (rt 1, arI E 12 tr.2.2.1), (rt 2, arI E 12 tr.2.2.2.1), (rt 3, arI E 12 tr.2.2.2.2.1), (rt 4, arI E 96 tr.2.2.2.2.2)] [(ox 0, noO ox rr rk rt rb xt kp), (rr 0, avO rr r.1 r.2.1), (rr 1, arI E 12 r.2.2.1), (rr 2, arI E 12 r.2.2.2.1), (rr 3, arI E 12 r.2.2.2.2.1), (rr 4, arI E 96 r.2.2.2.2.2), (rt 0, avO rt r.1 r.2.1), (rt 1, arI E 12 r.2.2.1), (rt 2, arI E 12 r.2.2.2.1), (rt 3, arI E 12 r.2.2.2.2.1), (rt 4, arI E 96 r.2.2.2.2.2)] := by
  refine CV.of (own := RX3) (cc := cX3_suppose) (nL := 1) (rt := none) (by decide) rfl rfl (Nat.le_of_ble_eq_true rfl) (fun X hX hQ => ?_)
  show G E X 1 0 [(0, .ref (ox 0))] [] [(ox 0, noO ox rr rk rt rb xt kp), (rr 0, avO rr r.1 r.2.1), (rr 1, arI E 12 r.2.2.1), (rr 2, arI E 12 r.2.2.2.1), (rr 3, arI E 12 r.2.2.2.2.1), (rr 4, arI E 96 r.2.2.2.2.2), (rt 0, avO rt tr.1 tr.2.1), (rt 1, arI E 12 tr.2.2.1), (rt 2, arI E 12 tr.2.2.2.1), (rt 3, arI E 12 tr.2.2.2.2.1), (rt 4, arI E 96 tr.2.2.2.2.2)]
  refine G.aload_n hX 0 rfl dX3_suppose_0 ?_
  refine G.get hX inc_X3_suppose_3 0 rfl rfl 2 (by decide) (by decide +kernel) rfl dX3_suppose_1 ?_
  refine G.aload_n hX 0 rfl dX3_suppose_4 ?_
  refine G.get hX inc_X3_suppose_3 0 rfl rfl 0 (by decide) (by decide +kernel) rfl dX3_suppose_5 ?_
  refine G.vv hX (As := [.ref (rr 0)]) (st := []) (wr := [(ox 0, noO ox rr rk rt rb xt kp)]) (wf := [(ox 0, noO ox rr rk rt rb xt kp), (rr 0, avO rr r.1 r.2.1), (rr 1, arI E 12 r.2.2.1), (rr 2, arI E 12 r.2.2.2.1), (rr 3, arI E 12 r.2.2.2.2.1), (rr 4, arI E 96 r.2.2.2.2.2), (rt 0, avO rt r.1 r.2.1), (rt 1, arI E 12 r.2.2.1), (rt 2, arI E 12 r.2.2.2.1), (rt 3, arI E 12 r.2.2.2.2.1), (rt 4, arI E 96 r.2.2.2.2.2)]) (q0 := 0) (ci := 0) rfl rfl (c_X0_become _ E (q := tr) (w := r) (a := rt) (b := rr) ) gX3_suppose_X0_become cp_X0_become (by decide) [6, 7, 8, 9, 10, 1, 2, 3, 4, 5] [0] [0, 6, 7, 8, 9, 10, 1, 2, 3, 4, 5] ⟨rfl, rfl, by decide, rfl⟩ rfl rfl (Nat.le_of_ble_eq_true rfl) dX3_suppose_8 ?_
  exact G.vret hX hQ dX3_suppose_11 (by rfl)
abbrev rmX3_homeAsItIs : Room := { frames := 5, cells := 0, slots := 0, locals := 121 }
theorem cp_X3_homeAsItIs : CP yX3_homeAsItIs RX3 wsX3_homeAsItIs 2 1 rmX3_homeAsItIs := ⟨⟨_, _, _, rfl⟩, rfl, rfl, by decide +kernel⟩
theorem inc_X3_homeAsItIs_3 : ∀ w ∈ u_ws RX3 TX3 9, w ∈ wsX3_homeAsItIs := by decide +kernel
set_option maxHeartbeats 4000000 in
set_option maxRecDepth 100000 in
theorem c_X3_homeAsItIs (l : Launch) (E : EV) (m : Nat) (r : AV) (tr : AV) (ox : Nat → Nat) (rr : Nat → Nat) (rk : Nat → Nat) (rt : Nat → Nat) (rb : Nat → Nat) (xt : Nat → Nat) (kp : Int32) (h1 : m < 8) : CI l yX3_homeAsItIs wsX3_homeAsItIs rmX3_homeAsItIs E [.ref (ox 0), .int (nI m)] [(ox 0, noO ox rr rk rt rb xt kp), (rr 0, avO rr r.1 r.2.1), (rr 1, arI E 12 r.2.2.1), (rr 2, arI E 12 r.2.2.2.1), (rr 3, arI E 12 r.2.2.2.2.1), (rr 4, arI E 96 r.2.2.2.2.2), (rt 0, avO rt tr.1 tr.2.1), (rt 1, arI E 12 tr.2.2.1), (rt 2, arI E 12 tr.2.2.2.1), (rt 3, arI E 12 tr.2.2.2.2.1), (rt 4, arI E 96 tr.2.2.2.2.2)] [(ox 0, noO ox rr rk rt rb xt kp), (rr 0, avO rr r.1 r.2.1), (rr 1, arI E 12 r.2.2.1), (rr 2, arI E 12 r.2.2.2.1), (rr 3, arI E 12 r.2.2.2.2.1), (rr 4, arI E 96 r.2.2.2.2.2), (rt 0, avO rt ((av_goS r m).1) ((av_goS r m).2.1)), (rt 1, arI E 12 ((av_goS r m).2.2.1)), (rt 2, arI E 12 ((av_goS r m).2.2.2.1)), (rt 3, arI E 12 ((av_goS r m).2.2.2.2.1)), (rt 4, arI E 96 ((av_goS r m).2.2.2.2.2))] (nI (av_gh r m)) := by
  refine CI.of (own := RX3) (cc := cX3_homeAsItIs) (nL := 2) (rt := (some .int)) (by decide) rfl rfl (Nat.le_of_ble_eq_true rfl) (fun X hX hQ => ?_)
  show G E X 2 0 [(0, .ref (ox 0)), (1, .int (nI m))] [] [(ox 0, noO ox rr rk rt rb xt kp), (rr 0, avO rr r.1 r.2.1), (rr 1, arI E 12 r.2.2.1), (rr 2, arI E 12 r.2.2.2.1), (rr 3, arI E 12 r.2.2.2.2.1), (rr 4, arI E 96 r.2.2.2.2.2), (rt 0, avO rt tr.1 tr.2.1), (rt 1, arI E 12 tr.2.2.1), (rt 2, arI E 12 tr.2.2.2.1), (rt 3, arI E 12 tr.2.2.2.2.1), (rt 4, arI E 96 tr.2.2.2.2.2)]
  refine G.aload_n hX 0 rfl dX3_homeAsItIs_0 ?_
  refine G.vv hX (As := []) (st := []) (wr := []) (wf := [(ox 0, noO ox rr rk rt rb xt kp), (rr 0, avO rr r.1 r.2.1), (rr 1, arI E 12 r.2.2.1), (rr 2, arI E 12 r.2.2.2.1), (rr 3, arI E 12 r.2.2.2.2.1), (rr 4, arI E 96 r.2.2.2.2.2), (rt 0, avO rt r.1 r.2.1), (rt 1, arI E 12 r.2.2.1), (rt 2, arI E 12 r.2.2.2.1), (rt 3, arI E 12 r.2.2.2.2.1), (rt 4, arI E 96 r.2.2.2.2.2)]) (q0 := 0) (ci := 3) rfl rfl (c_X3_suppose _ E (r := r) (tr := tr) (ox := ox) (rr := rr) (rk := rk) (rt := rt) (rb := rb) (xt := xt) (kp := kp) ) gX3_homeAsItIs_X3_suppose cp_X3_suppose (by decide) [0, 1, 2, 3, 4, 5, 6, 7, 8, 9, 10] [] [0, 1, 2, 3, 4, 5, 6, 7, 8, 9, 10] ⟨rfl, rfl, by decide, rfl⟩ rfl rfl (Nat.le_of_ble_eq_true rfl) dX3_homeAsItIs_1 ?_
  refine G.aload_n hX 0 rfl dX3_homeAsItIs_4 ?_
  refine G.get hX inc_X3_homeAsItIs_3 0 rfl rfl 2 (by decide) (by decide +kernel) rfl dX3_homeAsItIs_5 ?_
  refine G.iload_n hX 1 rfl dX3_homeAsItIs_8 ?_
  refine G.vi hX (As := [.int (nI m)]) (st := []) (wr := [(ox 0, noO ox rr rk rt rb xt kp), (rr 0, avO rr r.1 r.2.1), (rr 1, arI E 12 r.2.2.1), (rr 2, arI E 12 r.2.2.2.1), (rr 3, arI E 12 r.2.2.2.2.1), (rr 4, arI E 96 r.2.2.2.2.2)]) (wf := [(ox 0, noO ox rr rk rt rb xt kp), (rr 0, avO rr r.1 r.2.1), (rr 1, arI E 12 r.2.2.1), (rr 2, arI E 12 r.2.2.2.1), (rr 3, arI E 12 r.2.2.2.2.1), (rr 4, arI E 96 r.2.2.2.2.2), (rt 0, avO rt ((av_goS r m).1) ((av_goS r m).2.1)), (rt 1, arI E 12 ((av_goS r m).2.2.1)), (rt 2, arI E 12 ((av_goS r m).2.2.2.1)), (rt 3, arI E 12 ((av_goS r m).2.2.2.2.1)), (rt 4, arI E 96 ((av_goS r m).2.2.2.2.2))]) (q0 := 0) (ci := 0) rfl rfl (c_X0_goHome _ E (q := r) (m := m) (a := rt) (h1 := by omega)) gX3_homeAsItIs_X0_goHome cp_X0_goHome (by decide) [6, 7, 8, 9, 10] [0, 1, 2, 3, 4, 5] [0, 1, 2, 3, 4, 5, 6, 7, 8, 9, 10] ⟨rfl, rfl, by decide, rfl⟩ rfl rfl (Nat.le_of_ble_eq_true rfl) dX3_homeAsItIs_9 ?_
  exact G.iret hX hQ dX3_homeAsItIs_12 (by rfl) (by rfl)
abbrev rmX3_homeWithKind : Room := { frames := 5, cells := 0, slots := 0, locals := 121 }
theorem cp_X3_homeWithKind : CP yX3_homeWithKind RX3 wsX3_homeWithKind 4 3 rmX3_homeWithKind := ⟨⟨_, _, _, rfl⟩, rfl, rfl, by decide +kernel⟩
theorem inc_X3_homeWithKind_0 : ∀ w ∈ u_ws RX0 TX0 6, w ∈ wsX3_homeWithKind := by decide +kernel
theorem inc_X3_homeWithKind_3 : ∀ w ∈ u_ws RX3 TX3 9, w ∈ wsX3_homeWithKind := by decide +kernel
set_option maxHeartbeats 4000000 in
set_option maxRecDepth 100000 in
theorem c_X3_homeWithKind (l : Launch) (E : EV) (t : Nat) (m : Nat) (k : Int32) (r : AV) (tr : AV) (ox : Nat → Nat) (rr : Nat → Nat) (rk : Nat → Nat) (rt : Nat → Nat) (rb : Nat → Nat) (xt : Nat → Nat) (kp : Int32) (h1 : t < 12) (h2 : m < 8) : CI l yX3_homeWithKind wsX3_homeWithKind rmX3_homeWithKind E [.ref (ox 0), .int (nI t), .int k, .int (nI m)] [(ox 0, noO ox rr rk rt rb xt kp), (rr 0, avO rr r.1 r.2.1), (rr 1, arI E 12 r.2.2.1), (rr 2, arI E 12 r.2.2.2.1), (rr 3, arI E 12 r.2.2.2.2.1), (rr 4, arI E 96 r.2.2.2.2.2), (rt 0, avO rt tr.1 tr.2.1), (rt 1, arI E 12 tr.2.2.1), (rt 2, arI E 12 tr.2.2.2.1), (rt 3, arI E 12 tr.2.2.2.2.1), (rt 4, arI E 96 tr.2.2.2.2.2)] [(ox 0, noO ox rr rk rt rb xt kp), (rr 0, avO rr r.1 r.2.1), (rr 1, arI E 12 r.2.2.1), (rr 2, arI E 12 r.2.2.2.1), (rr 3, arI E 12 r.2.2.2.2.1), (rr 4, arI E 96 r.2.2.2.2.2), (rt 0, avO rt ((av_goS (av_kind r t k) m).1) ((av_goS (av_kind r t k) m).2.1)), (rt 1, arI E 12 ((av_goS (av_kind r t k) m).2.2.1)), (rt 2, arI E 12 ((av_goS (av_kind r t k) m).2.2.2.1)), (rt 3, arI E 12 ((av_goS (av_kind r t k) m).2.2.2.2.1)), (rt 4, arI E 96 ((av_goS (av_kind r t k) m).2.2.2.2.2))] (nI (av_gh (av_kind r t k) m)) := by
  refine CI.of (own := RX3) (cc := cX3_homeWithKind) (nL := 4) (rt := (some .int)) (by decide) rfl rfl (Nat.le_of_ble_eq_true rfl) (fun X hX hQ => ?_)
  show G E X 4 0 [(0, .ref (ox 0)), (1, .int (nI t)), (2, .int k), (3, .int (nI m))] [] [(ox 0, noO ox rr rk rt rb xt kp), (rr 0, avO rr r.1 r.2.1), (rr 1, arI E 12 r.2.2.1), (rr 2, arI E 12 r.2.2.2.1), (rr 3, arI E 12 r.2.2.2.2.1), (rr 4, arI E 96 r.2.2.2.2.2), (rt 0, avO rt tr.1 tr.2.1), (rt 1, arI E 12 tr.2.2.1), (rt 2, arI E 12 tr.2.2.2.1), (rt 3, arI E 12 tr.2.2.2.2.1), (rt 4, arI E 96 tr.2.2.2.2.2)]
  refine G.aload_n hX 0 rfl dX3_homeWithKind_0 ?_
  refine G.vv hX (As := []) (st := []) (wr := []) (wf := [(ox 0, noO ox rr rk rt rb xt kp), (rr 0, avO rr r.1 r.2.1), (rr 1, arI E 12 r.2.2.1), (rr 2, arI E 12 r.2.2.2.1), (rr 3, arI E 12 r.2.2.2.2.1), (rr 4, arI E 96 r.2.2.2.2.2), (rt 0, avO rt r.1 r.2.1), (rt 1, arI E 12 r.2.2.1), (rt 2, arI E 12 r.2.2.2.1), (rt 3, arI E 12 r.2.2.2.2.1), (rt 4, arI E 96 r.2.2.2.2.2)]) (q0 := 0) (ci := 3) rfl rfl (c_X3_suppose _ E (r := r) (tr := tr) (ox := ox) (rr := rr) (rk := rk) (rt := rt) (rb := rb) (xt := xt) (kp := kp) ) gX3_homeWithKind_X3_suppose cp_X3_suppose (by decide) [0, 1, 2, 3, 4, 5, 6, 7, 8, 9, 10] [] [0, 1, 2, 3, 4, 5, 6, 7, 8, 9, 10] ⟨rfl, rfl, by decide, rfl⟩ rfl rfl (Nat.le_of_ble_eq_true rfl) dX3_homeWithKind_1 ?_
  refine G.aload_n hX 0 rfl dX3_homeWithKind_4 ?_
  refine G.get hX inc_X3_homeWithKind_3 0 rfl rfl 2 (by decide) (by decide +kernel) rfl dX3_homeWithKind_5 ?_
  refine G.get hX inc_X3_homeWithKind_0 6 rfl rfl 2 (by decide) (by decide +kernel) rfl dX3_homeWithKind_8 ?_
  refine G.iload_n hX 1 rfl dX3_homeWithKind_11 ?_
  refine G.iload_n hX 2 rfl dX3_homeWithKind_12 ?_
  refine G.iast hX (j := t) (ws' := [(ox 0, noO ox rr rk rt rb xt kp), (rr 0, avO rr r.1 r.2.1), (rr 1, arI E 12 r.2.2.1), (rr 2, arI E 12 r.2.2.2.1), (rr 3, arI E 12 r.2.2.2.2.1), (rr 4, arI E 96 r.2.2.2.2.2), (rt 0, avO rt r.1 r.2.1), (rt 1, arI E 12 (upd r.2.2.1 t k)), (rt 2, arI E 12 r.2.2.2.1), (rt 3, arI E 12 r.2.2.2.2.1), (rt 4, arI E 96 r.2.2.2.2.2)]) 7 rfl (by omega) (by omega) rfl rfl dX3_homeWithKind_13 ?_
  refine G.we (ws' := [(ox 0, noO ox rr rk rt rb xt kp), (rr 0, avO rr r.1 r.2.1), (rr 1, arI E 12 r.2.2.1), (rr 2, arI E 12 r.2.2.2.1), (rr 3, arI E 12 r.2.2.2.2.1), (rr 4, arI E 96 r.2.2.2.2.2), (rt 0, avO rt ((av_kind r t k).1) ((av_kind r t k).2.1)), (rt 1, arI E 12 ((av_kind r t k).2.2.1)), (rt 2, arI E 12 ((av_kind r t k).2.2.2.1)), (rt 3, arI E 12 ((av_kind r t k).2.2.2.2.1)), (rt 4, arI E 96 ((av_kind r t k).2.2.2.2.2))]) (by rfl) ?_
  refine G.aload_n hX 0 rfl dX3_homeWithKind_14 ?_
  refine G.get hX inc_X3_homeWithKind_3 0 rfl rfl 2 (by decide) (by decide +kernel) rfl dX3_homeWithKind_15 ?_
  refine G.iload_n hX 3 rfl dX3_homeWithKind_18 ?_
  refine G.vi hX (As := [.int (nI m)]) (st := []) (wr := [(ox 0, noO ox rr rk rt rb xt kp), (rr 0, avO rr r.1 r.2.1), (rr 1, arI E 12 r.2.2.1), (rr 2, arI E 12 r.2.2.2.1), (rr 3, arI E 12 r.2.2.2.2.1), (rr 4, arI E 96 r.2.2.2.2.2)]) (wf := [(ox 0, noO ox rr rk rt rb xt kp), (rr 0, avO rr r.1 r.2.1), (rr 1, arI E 12 r.2.2.1), (rr 2, arI E 12 r.2.2.2.1), (rr 3, arI E 12 r.2.2.2.2.1), (rr 4, arI E 96 r.2.2.2.2.2), (rt 0, avO rt ((av_goS (av_kind r t k) m).1) ((av_goS (av_kind r t k) m).2.1)), (rt 1, arI E 12 ((av_goS (av_kind r t k) m).2.2.1)), (rt 2, arI E 12 ((av_goS (av_kind r t k) m).2.2.2.1)), (rt 3, arI E 12 ((av_goS (av_kind r t k) m).2.2.2.2.1)), (rt 4, arI E 96 ((av_goS (av_kind r t k) m).2.2.2.2.2))]) (q0 := 0) (ci := 0) rfl rfl (c_X0_goHome _ E (q := av_kind r t k) (m := m) (a := rt) (h1 := by omega)) gX3_homeWithKind_X0_goHome cp_X0_goHome (by decide) [6, 7, 8, 9, 10] [0, 1, 2, 3, 4, 5] [0, 1, 2, 3, 4, 5, 6, 7, 8, 9, 10] ⟨rfl, rfl, by decide, rfl⟩ rfl rfl (Nat.le_of_ble_eq_true rfl) dX3_homeWithKind_19 ?_
  exact G.iret hX hQ dX3_homeWithKind_22 (by rfl) (by rfl)
abbrev rmX3_findLearntIn : Room := { frames := 4, cells := 0, slots := 0, locals := 121 }
theorem cp_X3_findLearntIn : CP yX3_findLearntIn RX3 wsX3_findLearntIn 4 1 rmX3_findLearntIn := ⟨⟨_, _, _, rfl⟩, rfl, rfl, by decide +kernel⟩
theorem inc_X3_findLearntIn_3 : ∀ w ∈ u_ws RX3 TX3 9, w ∈ wsX3_findLearntIn := by decide +kernel
set_option maxHeartbeats 4000000 in
set_option maxRecDepth 100000 in
theorem c_X3_findLearntIn (l : Launch) (E : EV) (m : Nat) (r : AV) (tr : AV) (ox : Nat → Nat) (rr : Nat → Nat) (rk : Nat → Nat) (rt : Nat → Nat) (rb : Nat → Nat) (xt : Nat → Nat) (kp : Int32) (li : Nat → Int32) (h1 : m < 8) : CV l yX3_findLearntIn wsX3_findLearntIn rmX3_findLearntIn E [.ref (ox 0), .int (nI m)] [(ox 0, noO ox rr rk rt rb xt kp), (rr 0, avO rr r.1 r.2.1), (rr 1, arI E 12 r.2.2.1), (rr 2, arI E 12 r.2.2.2.1), (rr 3, arI E 12 r.2.2.2.2.1), (rr 4, arI E 96 r.2.2.2.2.2), (rt 0, avO rt tr.1 tr.2.1), (rt 1, arI E 12 tr.2.2.1), (rt 2, arI E 12 tr.2.2.2.1), (rt 3, arI E 12 tr.2.2.2.2.1), (rt 4, arI E 96 tr.2.2.2.2.2), (ox 1, arI E 12 li)] [(ox 0, noO ox rr rk rt rb xt kp), (rr 0, avO rr r.1 r.2.1), (rr 1, arI E 12 r.2.2.1), (rr 2, arI E 12 r.2.2.2.1), (rr 3, arI E 12 r.2.2.2.2.1), (rr 4, arI E 96 r.2.2.2.2.2), (rt 0, avO rt ((av_ys (1 <<< (nI m &&& 31)) 201 r).1) ((av_ys (1 <<< (nI m &&& 31)) 201 r).2.1)), (rt 1, arI E 12 ((av_ys (1 <<< (nI m &&& 31)) 201 r).2.2.1)), (rt 2, arI E 12 ((av_ys (1 <<< (nI m &&& 31)) 201 r).2.2.2.1)), (rt 3, arI E 12 ((av_ys (1 <<< (nI m &&& 31)) 201 r).2.2.2.2.1)), (rt 4, arI E 96 ((av_ys (1 <<< (nI m &&& 31)) 201 r).2.2.2.2.2)), (ox 1, arI E 12 (liR r m 201))] := by
  refine CV.of (own := RX3) (cc := cX3_findLearntIn) (nL := 4) (rt := none) (by decide) rfl rfl (Nat.le_of_ble_eq_true rfl) (fun X hX hQ => ?_)
  show G E X 4 0 [(0, .ref (ox 0)), (1, .int (nI m))] [] [(ox 0, noO ox rr rk rt rb xt kp), (rr 0, avO rr r.1 r.2.1), (rr 1, arI E 12 r.2.2.1), (rr 2, arI E 12 r.2.2.2.1), (rr 3, arI E 12 r.2.2.2.2.1), (rr 4, arI E 96 r.2.2.2.2.2), (rt 0, avO rt tr.1 tr.2.1), (rt 1, arI E 12 tr.2.2.1), (rt 2, arI E 12 tr.2.2.2.1), (rt 3, arI E 12 tr.2.2.2.2.1), (rt 4, arI E 96 tr.2.2.2.2.2), (ox 1, arI E 12 li)]
  refine G.aload_n hX 0 rfl dX3_findLearntIn_0 ?_
  refine G.get hX inc_X3_findLearntIn_3 0 rfl rfl 4 (by decide) (by decide +kernel) rfl dX3_findLearntIn_1 ?_
  refine G.sipush hX (v := 201) (by decide) dX3_findLearntIn_4 ?_
  refine G.sv hX (As := [.ref (ox 1), .int 201]) (st := []) (wr := [(ox 0, noO ox rr rk rt rb xt kp), (rr 0, avO rr r.1 r.2.1), (rr 1, arI E 12 r.2.2.1), (rr 2, arI E 12 r.2.2.2.1), (rr 3, arI E 12 r.2.2.2.2.1), (rr 4, arI E 96 r.2.2.2.2.2), (rt 0, avO rt tr.1 tr.2.1), (rt 1, arI E 12 tr.2.2.1), (rt 2, arI E 12 tr.2.2.2.1), (rt 3, arI E 12 tr.2.2.2.2.1), (rt 4, arI E 96 tr.2.2.2.2.2)]) (wf := [(ox 0, noO ox rr rk rt rb xt kp), (rr 0, avO rr r.1 r.2.1), (rr 1, arI E 12 r.2.2.1), (rr 2, arI E 12 r.2.2.2.1), (rr 3, arI E 12 r.2.2.2.2.1), (rr 4, arI E 96 r.2.2.2.2.2), (rt 0, avO rt tr.1 tr.2.1), (rt 1, arI E 12 tr.2.2.1), (rt 2, arI E 12 tr.2.2.2.1), (rt 3, arI E 12 tr.2.2.2.2.1), (rt 4, arI E 96 tr.2.2.2.2.2), ((ox 1), arI E 12 (fun _ => 201))]) (c_J7_fill_53178 _ E (aa := ox 1) (nn := 12) (v := 201) (f := li) (h1 := by omega)) gX3_findLearntIn_J7_fill_53178 cp_J7_fill_53178 (by decide) [11] [0, 1, 2, 3, 4, 5, 6, 7, 8, 9, 10] [0, 1, 2, 3, 4, 5, 6, 7, 8, 9, 10, 11] ⟨rfl, rfl, by decide, rfl⟩ rfl rfl (Nat.le_of_ble_eq_true rfl) dX3_findLearntIn_7 ?_
  refine G.we (ws' := [(ox 0, noO ox rr rk rt rb xt kp), (rr 0, avO rr r.1 r.2.1), (rr 1, arI E 12 r.2.2.1), (rr 2, arI E 12 r.2.2.2.1), (rr 3, arI E 12 r.2.2.2.2.1), (rr 4, arI E 96 r.2.2.2.2.2), (rt 0, avO rt tr.1 tr.2.1), (rt 1, arI E 12 tr.2.2.1), (rt 2, arI E 12 tr.2.2.2.1), (rt 3, arI E 12 tr.2.2.2.2.1), (rt 4, arI E 96 tr.2.2.2.2.2), ((ox 1), arI E 12 (liR r m 0))]) (by rfl) ?_
  refine G.aload_n hX 0 rfl dX3_findLearntIn_10 ?_
  refine G.vv hX (As := []) (st := []) (wr := [((ox 1), arI E 12 (liR r m 0))]) (wf := [(ox 0, noO ox rr rk rt rb xt kp), (rr 0, avO rr r.1 r.2.1), (rr 1, arI E 12 r.2.2.1), (rr 2, arI E 12 r.2.2.2.1), (rr 3, arI E 12 r.2.2.2.2.1), (rr 4, arI E 96 r.2.2.2.2.2), (rt 0, avO rt r.1 r.2.1), (rt 1, arI E 12 r.2.2.1), (rt 2, arI E 12 r.2.2.2.1), (rt 3, arI E 12 r.2.2.2.2.1), (rt 4, arI E 96 r.2.2.2.2.2), ((ox 1), arI E 12 (liR r m 0))]) (q0 := 0) (ci := 3) rfl rfl (c_X3_suppose _ E (r := r) (tr := tr) (ox := ox) (rr := rr) (rk := rk) (rt := rt) (rb := rb) (xt := xt) (kp := kp) ) gX3_findLearntIn_X3_suppose cp_X3_suppose (by decide) [0, 1, 2, 3, 4, 5, 6, 7, 8, 9, 10] [11] [1, 2, 3, 4, 5, 6, 7, 8, 9, 10, 11, 0] ⟨rfl, rfl, by decide, rfl⟩ rfl rfl (Nat.le_of_ble_eq_true rfl) dX3_findLearntIn_11 ?_
  refine G.iconst hX (v := 0) (by decide) dX3_findLearntIn_14 ?_
  refine G.istore_n hX (lv' := [(2, .int 0), (0, .ref (ox 0)), (1, .int (nI m))]) rfl (by decide) rfl dX3_findLearntIn_15 ?_
  have L16 : ∀ (n : Nat) (j : Nat), j ≤ 201 → 202 ≤ j + n → G E X 4 16 [(0, .ref (ox 0)), (1, .int (nI m)), (2, .int (nI j))] [] [(ox 0, noO ox rr rk rt rb xt kp), (rr 0, avO rr r.1 r.2.1), (rr 1, arI E 12 r.2.2.1), (rr 2, arI E 12 r.2.2.2.1), (rr 3, arI E 12 r.2.2.2.2.1), (rr 4, arI E 96 r.2.2.2.2.2), (rt 0, avO rt ((av_ys (1 <<< (nI m &&& 31)) j r).1) ((av_ys (1 <<< (nI m &&& 31)) j r).2.1)), (rt 1, arI E 12 ((av_ys (1 <<< (nI m &&& 31)) j r).2.2.1)), (rt 2, arI E 12 ((av_ys (1 <<< (nI m &&& 31)) j r).2.2.2.1)), (rt 3, arI E 12 ((av_ys (1 <<< (nI m &&& 31)) j r).2.2.2.2.1)), (rt 4, arI E 96 ((av_ys (1 <<< (nI m &&& 31)) j r).2.2.2.2.2)), (ox 1, arI E 12 (liR r m j))] := by
    intro n
    induction n with
    | zero => intro j hl16_0 hl16_1; exact absurd hl16_1 (by omega)
    | succ n ih16 =>
      intro j hl16_0 hl16_1
      refine G.iload_n hX 2 rfl dX3_findLearntIn_16 ?_
      refine G.sipush hX (v := 200) (by decide) dX3_findLearntIn_17 ?_
      refine G.n_gt hX (a := j) (b := 200) (tgt := 84) (by omega) (by omega) (by decide) dX3_findLearntIn_20 (fun c20 => ?_) (fun c20 => ?_)
      · obtain rfl : j = 201 := by omega
        exact G.vret hX hQ dX3_findLearntIn_84 (by rfl)
      · refine G.iconst hX (v := 0) (by decide) dX3_findLearntIn_23 ?_
        refine G.istore_n hX (lv' := [(3, .int 0), (0, .ref (ox 0)), (1, .int (nI m)), (2, .int (nI j))]) rfl (by decide) rfl dX3_findLearntIn_24 ?_
        have L25 : ∀ (n : Nat) (t : Nat), t ≤ 12 → 13 ≤ t + n → G E X 4 25 [(0, .ref (ox 0)), (1, .int (nI m)), (2, .int (nI j)), (3, .int (nI t))] [] [(ox 0, noO ox rr rk rt rb xt kp), (rr 0, avO rr r.1 r.2.1), (rr 1, arI E 12 r.2.2.1), (rr 2, arI E 12 r.2.2.2.1), (rr 3, arI E 12 r.2.2.2.2.1), (rr 4, arI E 96 r.2.2.2.2.2), (rt 0, avO rt ((av_ys (1 <<< (nI m &&& 31)) j r).1) ((av_ys (1 <<< (nI m &&& 31)) j r).2.1)), (rt 1, arI E 12 ((av_ys (1 <<< (nI m &&& 31)) j r).2.2.1)), (rt 2, arI E 12 ((av_ys (1 <<< (nI m &&& 31)) j r).2.2.2.1)), (rt 3, arI E 12 ((av_ys (1 <<< (nI m &&& 31)) j r).2.2.2.2.1)), (rt 4, arI E 96 ((av_ys (1 <<< (nI m &&& 31)) j r).2.2.2.2.2)), (ox 1, arI E 12 (cpN t (liR r m (j + 1)) (liR r m j)))] := by
          intro n
          induction n with
          | zero => intro t hl25_0 hl25_1; exact absurd hl25_1 (by omega)
          | succ n ih25 =>
            intro t hl25_0 hl25_1
            refine G.iload_n hX 3 rfl dX3_findLearntIn_25 ?_
            refine G.bipush hX (v := 12) (by decide) dX3_findLearntIn_26 ?_
            refine G.n_ge hX (a := t) (b := 12) (tgt := 68) (by omega) (by omega) (by decide) dX3_findLearntIn_28 (fun c28 => ?_) (fun c28 => ?_)
            · obtain rfl : t = 12 := by omega
              refine G.ext (g := liR r m (j + 1)) (ws' := [(ox 0, noO ox rr rk rt rb xt kp), (rr 0, avO rr r.1 r.2.1), (rr 1, arI E 12 r.2.2.1), (rr 2, arI E 12 r.2.2.2.1), (rr 3, arI E 12 r.2.2.2.2.1), (rr 4, arI E 96 r.2.2.2.2.2), (rt 0, avO rt ((av_ys (1 <<< (nI m &&& 31)) j r).1) ((av_ys (1 <<< (nI m &&& 31)) j r).2.1)), (rt 1, arI E 12 ((av_ys (1 <<< (nI m &&& 31)) j r).2.2.1)), (rt 2, arI E 12 ((av_ys (1 <<< (nI m &&& 31)) j r).2.2.2.1)), (rt 3, arI E 12 ((av_ys (1 <<< (nI m &&& 31)) j r).2.2.2.2.1)), (rt 4, arI E 96 ((av_ys (1 <<< (nI m &&& 31)) j r).2.2.2.2.2)), (ox 1, arI E 12 (liR r m (j + 1)))]) 11 rfl (fun u hu => cpN_in hu) rfl ?_
              refine G.aload_n hX 0 rfl dX3_findLearntIn_68 ?_
              refine G.get hX inc_X3_findLearntIn_3 0 rfl rfl 2 (by decide) (by decide +kernel) rfl dX3_findLearntIn_69 ?_
              refine G.iconst hX (v := 1) (by decide) dX3_findLearntIn_72 ?_
              refine G.iload_n hX 1 rfl dX3_findLearntIn_73 ?_
              refine G.ishl hX dX3_findLearntIn_74 ?_
              refine G.vv hX (As := [.int (1 <<< ((nI m) &&& 31))]) (st := []) (wr := [(ox 0, noO ox rr rk rt rb xt kp), (rr 0, avO rr r.1 r.2.1), (rr 1, arI E 12 r.2.2.1), (rr 2, arI E 12 r.2.2.2.1), (rr 3, arI E 12 r.2.2.2.2.1), (rr 4, arI E 96 r.2.2.2.2.2), (ox 1, arI E 12 (liR r m (j + 1)))]) (wf := [(ox 0, noO ox rr rk rt rb xt kp), (rr 0, avO rr r.1 r.2.1), (rr 1, arI E 12 r.2.2.1), (rr 2, arI E 12 r.2.2.2.1), (rr 3, arI E 12 r.2.2.2.2.1), (rr 4, arI E 96 r.2.2.2.2.2), (rt 0, avO rt ((av_yr (1 <<< ((nI m) &&& 31)) (av_ys (1 <<< (nI m &&& 31)) j r)).1) ((av_yr (1 <<< ((nI m) &&& 31)) (av_ys (1 <<< (nI m &&& 31)) j r)).2.1)), (rt 1, arI E 12 ((av_yr (1 <<< ((nI m) &&& 31)) (av_ys (1 <<< (nI m &&& 31)) j r)).2.2.1)), (rt 2, arI E 12 ((av_yr (1 <<< ((nI m) &&& 31)) (av_ys (1 <<< (nI m &&& 31)) j r)).2.2.2.1)), (rt 3, arI E 12 ((av_yr (1 <<< ((nI m) &&& 31)) (av_ys (1 <<< (nI m &&& 31)) j r)).2.2.2.2.1)), (rt 4, arI E 96 ((av_yr (1 <<< ((nI m) &&& 31)) (av_ys (1 <<< (nI m &&& 31)) j r)).2.2.2.2.2)), (ox 1, arI E 12 (liR r m (j + 1)))]) (q0 := 0) (ci := 0) rfl rfl (c_X0_passYear _ E (q := av_ys (1 <<< (nI m &&& 31)) j r) (mk := 1 <<< ((nI m) &&& 31)) (a := rt) ) gX3_findLearntIn_X0_passYear cp_X0_passYear (by decide) [6, 7, 8, 9, 10] [0, 1, 2, 3, 4, 5, 11] [0, 1, 2, 3, 4, 5, 7, 8, 9, 10, 11, 6] ⟨rfl, rfl, by decide, rfl⟩ rfl rfl (Nat.le_of_ble_eq_true rfl) dX3_findLearntIn_75 ?_
              refine G.iinc hX (n := 1) (lv' := [(2, .int (nI (j + 1))), (0, .ref (ox 0)), (1, .int (nI m)), (3, .int (nI 12))]) 2 rfl (inc_nI j 1 rfl) (by decide) rfl dX3_findLearntIn_78 ?_
              refine G.goto hX (tgt := 16) (by decide) dX3_findLearntIn_81 ?_
              refine G.lvp (lv' := [(0, .ref (ox 0)), (1, .int (nI m)), (2, .int (nI (j + 1)))]) [1, 2, 0] rfl ?_
              refine G.lve (lv' := [(0, .ref (ox 0)), (1, .int (nI m)), (2, .int (nI ((j + 1))))]) (by rfl) ?_
              refine G.we (ws' := [(ox 0, noO ox rr rk rt rb xt kp), (rr 0, avO rr r.1 r.2.1), (rr 1, arI E 12 r.2.2.1), (rr 2, arI E 12 r.2.2.2.1), (rr 3, arI E 12 r.2.2.2.2.1), (rr 4, arI E 96 r.2.2.2.2.2), (rt 0, avO rt ((av_ys (1 <<< (nI m &&& 31)) (j + 1) r).1) ((av_ys (1 <<< (nI m &&& 31)) (j + 1) r).2.1)), (rt 1, arI E 12 ((av_ys (1 <<< (nI m &&& 31)) (j + 1) r).2.2.1)), (rt 2, arI E 12 ((av_ys (1 <<< (nI m &&& 31)) (j + 1) r).2.2.2.1)), (rt 3, arI E 12 ((av_ys (1 <<< (nI m &&& 31)) (j + 1) r).2.2.2.2.1)), (rt 4, arI E 96 ((av_ys (1 <<< (nI m &&& 31)) (j + 1) r).2.2.2.2.2)), (ox 1, arI E 12 (liR r m (j + 1)))]) (by rfl) ?_
              exact ih16 (j + 1) (by omega) (by omega)
            · have J62 : G E X 4 62 [(0, .ref (ox 0)), (1, .int (nI m)), (2, .int (nI j)), (3, .int (nI t))] [] [(ox 0, noO ox rr rk rt rb xt kp), (rr 0, avO rr r.1 r.2.1), (rr 1, arI E 12 r.2.2.1), (rr 2, arI E 12 r.2.2.2.1), (rr 3, arI E 12 r.2.2.2.2.1), (rr 4, arI E 96 r.2.2.2.2.2), (rt 0, avO rt ((av_ys (1 <<< (nI m &&& 31)) j r).1) ((av_ys (1 <<< (nI m &&& 31)) j r).2.1)), (rt 1, arI E 12 ((av_ys (1 <<< (nI m &&& 31)) j r).2.2.1)), (rt 2, arI E 12 ((av_ys (1 <<< (nI m &&& 31)) j r).2.2.2.1)), (rt 3, arI E 12 ((av_ys (1 <<< (nI m &&& 31)) j r).2.2.2.2.1)), (rt 4, arI E 96 ((av_ys (1 <<< (nI m &&& 31)) j r).2.2.2.2.2)), (ox 1, arI E 12 (cpN (t + 1) (liR r m (j + 1)) (liR r m j)))] := by
                refine G.iinc hX (n := 1) (lv' := [(3, .int (nI (t + 1))), (0, .ref (ox 0)), (1, .int (nI m)), (2, .int (nI j))]) 3 rfl (inc_nI t 1 rfl) (by decide) rfl dX3_findLearntIn_62 ?_
                refine G.goto hX (tgt := 25) (by decide) dX3_findLearntIn_65 ?_
                refine G.lvp (lv' := [(0, .ref (ox 0)), (1, .int (nI m)), (2, .int (nI j)), (3, .int (nI (t + 1)))]) [1, 2, 3, 0] rfl ?_
                refine G.lve (lv' := [(0, .ref (ox 0)), (1, .int (nI m)), (2, .int (nI j)), (3, .int (nI ((t + 1))))]) (by rfl) ?_
                exact ih25 (t + 1) (by omega) (by omega)
              refine G.aload_n hX 0 rfl dX3_findLearntIn_31 ?_
              refine G.get hX inc_X3_findLearntIn_3 0 rfl rfl 4 (by decide) (by decide +kernel) rfl dX3_findLearntIn_32 ?_
              refine G.iload_n hX 3 rfl dX3_findLearntIn_35 ?_
              refine G.iald hX (j := t) 11 rfl (by omega) (by omega) dX3_findLearntIn_36 ?_
              refine G.ie (y := liR r m j t) (by exact cpN_ge (by omega)) ?_
              refine G.sipush hX (v := 201) (by decide) dX3_findLearntIn_37 ?_
              refine G.icmp_ne hX (tgt := 62) (by decide) dX3_findLearntIn_40 (fun c40 => ?_) (fun c40 => ?_)
              · refine G.we (ws' := [(ox 0, noO ox rr rk rt rb xt kp), (rr 0, avO rr r.1 r.2.1), (rr 1, arI E 12 r.2.2.1), (rr 2, arI E 12 r.2.2.2.1), (rr 3, arI E 12 r.2.2.2.2.1), (rr 4, arI E 96 r.2.2.2.2.2), (rt 0, avO rt ((av_ys (1 <<< (nI m &&& 31)) j r).1) ((av_ys (1 <<< (nI m &&& 31)) j r).2.1)), (rt 1, arI E 12 ((av_ys (1 <<< (nI m &&& 31)) j r).2.2.1)), (rt 2, arI E 12 ((av_ys (1 <<< (nI m &&& 31)) j r).2.2.2.1)), (rt 3, arI E 12 ((av_ys (1 <<< (nI m &&& 31)) j r).2.2.2.2.1)), (rt 4, arI E 96 ((av_ys (1 <<< (nI m &&& 31)) j r).2.2.2.2.2)), (ox 1, arI E 12 (cpN (t + 1) (liR r m (j + 1)) (liR r m j)))]) (by first | (rw [cpN_skip (show liR r m (j + 1) t = liR r m j t by simp [liR, c20, c28, c40])]; done) | (rw [← cpN_s, show liR r m (j + 1) t = nI j by simp [liR, c20, c28, c40]]; done)) ?_
                exact J62
              · refine G.aload_n hX 0 rfl dX3_findLearntIn_43 ?_
                refine G.get hX inc_X3_findLearntIn_3 0 rfl rfl 2 (by decide) (by decide +kernel) rfl dX3_findLearntIn_44 ?_
                refine G.iload_n hX 3 rfl dX3_findLearntIn_47 ?_
                refine G.iload_n hX 1 rfl dX3_findLearntIn_48 ?_
                refine G.vi hX (As := [.int (nI t), .int (nI m)]) (st := []) (wr := [(ox 0, noO ox rr rk rt rb xt kp), (rr 0, avO rr r.1 r.2.1), (rr 1, arI E 12 r.2.2.1), (rr 2, arI E 12 r.2.2.2.1), (rr 3, arI E 12 r.2.2.2.2.1), (rr 4, arI E 96 r.2.2.2.2.2), (ox 1, arI E 12 (cpN t (liR r m (j + 1)) (liR r m j)))]) (wf := [(ox 0, noO ox rr rk rt rb xt kp), (rr 0, avO rr r.1 r.2.1), (rr 1, arI E 12 r.2.2.1), (rr 2, arI E 12 r.2.2.2.1), (rr 3, arI E 12 r.2.2.2.2.1), (rr 4, arI E 96 r.2.2.2.2.2), (rt 0, avO rt ((av_ys (1 <<< (nI m &&& 31)) j r).1) ((av_ys (1 <<< (nI m &&& 31)) j r).2.1)), (rt 1, arI E 12 ((av_ys (1 <<< (nI m &&& 31)) j r).2.2.1)), (rt 2, arI E 12 ((av_ys (1 <<< (nI m &&& 31)) j r).2.2.2.1)), (rt 3, arI E 12 ((av_ys (1 <<< (nI m &&& 31)) j r).2.2.2.2.1)), (rt 4, arI E 96 ((av_ys (1 <<< (nI m &&& 31)) j r).2.2.2.2.2)), (ox 1, arI E 12 (cpN t (liR r m (j + 1)) (liR r m j)))]) (q0 := 0) (ci := 0) rfl rfl (c_X0_knows _ E (q := av_ys (1 <<< (nI m &&& 31)) j r) (t := t) (m := m) (a := rt) (h1 := by omega) (h2 := by omega)) gX3_findLearntIn_X0_knows cp_X0_knows (by decide) [6, 7, 8, 9, 10] [0, 1, 2, 3, 4, 5, 11] [0, 1, 2, 3, 4, 5, 7, 8, 9, 10, 11, 6] ⟨rfl, rfl, by decide, rfl⟩ rfl rfl (Nat.le_of_ble_eq_true rfl) dX3_findLearntIn_49 ?_
                refine G.b_eq hX (tgt := 62) (by decide) dX3_findLearntIn_52 (fun c52 => ?_) (fun c52 => ?_)
                · refine G.we (ws' := [(ox 0, noO ox rr rk rt rb xt kp), (rr 0, avO rr r.1 r.2.1), (rr 1, arI E 12 r.2.2.1), (rr 2, arI E 12 r.2.2.2.1), (rr 3, arI E 12 r.2.2.2.2.1), (rr 4, arI E 96 r.2.2.2.2.2), (rt 0, avO rt ((av_ys (1 <<< (nI m &&& 31)) j r).1) ((av_ys (1 <<< (nI m &&& 31)) j r).2.1)), (rt 1, arI E 12 ((av_ys (1 <<< (nI m &&& 31)) j r).2.2.1)), (rt 2, arI E 12 ((av_ys (1 <<< (nI m &&& 31)) j r).2.2.2.1)), (rt 3, arI E 12 ((av_ys (1 <<< (nI m &&& 31)) j r).2.2.2.2.1)), (rt 4, arI E 96 ((av_ys (1 <<< (nI m &&& 31)) j r).2.2.2.2.2)), (ox 1, arI E 12 (cpN (t + 1) (liR r m (j + 1)) (liR r m j)))]) (by first | (rw [cpN_skip (show liR r m (j + 1) t = liR r m j t by simp [liR, c20, c28, c40, c52])]; done) | (rw [← cpN_s, show liR r m (j + 1) t = nI j by simp [liR, c20, c28, c40, c52]]; done)) ?_
                  exact J62
                · refine G.aload_n hX 0 rfl dX3_findLearntIn_55 ?_
                  refine G.get hX inc_X3_findLearntIn_3 0 rfl rfl 4 (by decide) (by decide +kernel) rfl dX3_findLearntIn_56 ?_
                  refine G.iload_n hX 3 rfl dX3_findLearntIn_59 ?_
                  refine G.iload_n hX 2 rfl dX3_findLearntIn_60 ?_
                  refine G.iast hX (j := t) (ws' := [(ox 0, noO ox rr rk rt rb xt kp), (rr 0, avO rr r.1 r.2.1), (rr 1, arI E 12 r.2.2.1), (rr 2, arI E 12 r.2.2.2.1), (rr 3, arI E 12 r.2.2.2.2.1), (rr 4, arI E 96 r.2.2.2.2.2), (rt 0, avO rt ((av_ys (1 <<< (nI m &&& 31)) j r).1) ((av_ys (1 <<< (nI m &&& 31)) j r).2.1)), (rt 1, arI E 12 ((av_ys (1 <<< (nI m &&& 31)) j r).2.2.1)), (rt 2, arI E 12 ((av_ys (1 <<< (nI m &&& 31)) j r).2.2.2.1)), (rt 3, arI E 12 ((av_ys (1 <<< (nI m &&& 31)) j r).2.2.2.2.1)), (rt 4, arI E 96 ((av_ys (1 <<< (nI m &&& 31)) j r).2.2.2.2.2)), (ox 1, arI E 12 (upd (cpN t (liR r m (j + 1)) (liR r m j)) t (nI j)))]) 11 rfl (by omega) (by omega) rfl rfl dX3_findLearntIn_61 ?_
                  refine G.we (ws' := [(ox 0, noO ox rr rk rt rb xt kp), (rr 0, avO rr r.1 r.2.1), (rr 1, arI E 12 r.2.2.1), (rr 2, arI E 12 r.2.2.2.1), (rr 3, arI E 12 r.2.2.2.2.1), (rr 4, arI E 96 r.2.2.2.2.2), (rt 0, avO rt ((av_ys (1 <<< (nI m &&& 31)) j r).1) ((av_ys (1 <<< (nI m &&& 31)) j r).2.1)), (rt 1, arI E 12 ((av_ys (1 <<< (nI m &&& 31)) j r).2.2.1)), (rt 2, arI E 12 ((av_ys (1 <<< (nI m &&& 31)) j r).2.2.2.1)), (rt 3, arI E 12 ((av_ys (1 <<< (nI m &&& 31)) j r).2.2.2.2.1)), (rt 4, arI E 96 ((av_ys (1 <<< (nI m &&& 31)) j r).2.2.2.2.2)), (ox 1, arI E 12 (cpN (t + 1) (liR r m (j + 1)) (liR r m j)))]) (by first | (rw [cpN_skip (show liR r m (j + 1) t = liR r m j t by simp [liR, c20, c28, c40, c52])]; done) | (rw [← cpN_s, show liR r m (j + 1) t = nI j by simp [liR, c20, c28, c40, c52]]; done)) ?_
                  exact J62
        refine G.lvp (lv' := [(0, .ref (ox 0)), (1, .int (nI m)), (2, .int (nI j)), (3, .int 0)]) [1, 2, 3, 0] rfl ?_
        refine G.lve (lv' := [(0, .ref (ox 0)), (1, .int (nI m)), (2, .int (nI j)), (3, .int (nI 0))]) (by rfl) ?_
        refine G.we (ws' := [(ox 0, noO ox rr rk rt rb xt kp), (rr 0, avO rr r.1 r.2.1), (rr 1, arI E 12 r.2.2.1), (rr 2, arI E 12 r.2.2.2.1), (rr 3, arI E 12 r.2.2.2.2.1), (rr 4, arI E 96 r.2.2.2.2.2), (rt 0, avO rt ((av_ys (1 <<< (nI m &&& 31)) j r).1) ((av_ys (1 <<< (nI m &&& 31)) j r).2.1)), (rt 1, arI E 12 ((av_ys (1 <<< (nI m &&& 31)) j r).2.2.1)), (rt 2, arI E 12 ((av_ys (1 <<< (nI m &&& 31)) j r).2.2.2.1)), (rt 3, arI E 12 ((av_ys (1 <<< (nI m &&& 31)) j r).2.2.2.2.1)), (rt 4, arI E 96 ((av_ys (1 <<< (nI m &&& 31)) j r).2.2.2.2.2)), (ox 1, arI E 12 (cpN 0 (liR r m (j + 1)) (liR r m j)))]) (by rw [cpN_0]) ?_
        exact L25 13 0 (by omega) (by omega)
  refine G.lvp (lv' := [(0, .ref (ox 0)), (1, .int (nI m)), (2, .int 0)]) [1, 2, 0] rfl ?_
  refine G.lve (lv' := [(0, .ref (ox 0)), (1, .int (nI m)), (2, .int (nI 0))]) (by rfl) ?_
  refine G.we (ws' := [(ox 0, noO ox rr rk rt rb xt kp), (rr 0, avO rr r.1 r.2.1), (rr 1, arI E 12 r.2.2.1), (rr 2, arI E 12 r.2.2.2.1), (rr 3, arI E 12 r.2.2.2.2.1), (rr 4, arI E 96 r.2.2.2.2.2), (rt 0, avO rt ((av_ys (1 <<< (nI m &&& 31)) 0 r).1) ((av_ys (1 <<< (nI m &&& 31)) 0 r).2.1)), (rt 1, arI E 12 ((av_ys (1 <<< (nI m &&& 31)) 0 r).2.2.1)), (rt 2, arI E 12 ((av_ys (1 <<< (nI m &&& 31)) 0 r).2.2.2.1)), (rt 3, arI E 12 ((av_ys (1 <<< (nI m &&& 31)) 0 r).2.2.2.2.1)), (rt 4, arI E 96 ((av_ys (1 <<< (nI m &&& 31)) 0 r).2.2.2.2.2)), (ox 1, arI E 12 (liR r m 0))]) (by rfl) ?_
  exact L16 202 0 (by omega) (by omega)
