abbrev rmX4_in : Room := { frames := 0, cells := 0, slots := 0, locals := 0 }
theorem cp_X4_in : CP yX4_in RX4 wsX4_in 6 3 rmX4_in := ⟨⟨_, _, _, rfl⟩, rfl, rfl, by decide +kernel⟩
set_option maxHeartbeats 4000000 in
set_option maxRecDepth 100000 in
theorem c_X4_inn (l : Launch) (E : EV) (v : Nat) (lo : Nat) (hi : Nat) (h1 : lo ≤ v) (h2 : v ≤ hi) (h3 : hi < 2 ^ 31) : CI l yX4_in wsX4_in rmX4_in E [.long (lN v), .long (lN lo), .long (lN hi)] [] [] 1 := by
  refine CI.of (own := RX4) (cc := cX4_in) (nL := 6) (rt := (some .boolean)) (by decide) rfl rfl (Nat.le_of_ble_eq_true rfl) (fun X hX hQ => ?_)
  show G E X 6 0 [(0, .long (lN v)), (2, .long (lN lo)), (4, .long (lN hi))] [] []
  refine G.lload_n hX 0 rfl dX4_in_0 ?_
  refine G.lload_n hX 1 rfl dX4_in_1 ?_
  refine G.lcmp hX dX4_in_2 ?_
  refine G.c_lt hX (tgt := 17) (by decide) dX4_in_3 (fun c3 => ?_) (fun c3 => ?_)
  · exact absurd (inR_n h1 h2 h3) (by simp [inR, c3])
  · refine G.lload_n hX 0 rfl dX4_in_6 ?_
    refine G.lload hX 2 rfl dX4_in_7 ?_
    refine G.lcmp hX dX4_in_9 ?_
    refine G.c_gt hX (tgt := 17) (by decide) dX4_in_10 (fun c10 => ?_) (fun c10 => ?_)
    · exact absurd (inR_n h1 h2 h3) (by simp [inR, c3, c10])
    · refine G.iconst hX (v := 1) (by decide) dX4_in_13 ?_
      refine G.goto hX (tgt := 18) (by decide) dX4_in_14 ?_
      exact G.zret hX hQ rfl dX4_in_18 (by rfl) (by rfl)
set_option maxHeartbeats 4000000 in
set_option maxRecDepth 100000 in
theorem c_X4_in (l : Launch) (E : EV) (v : Int64) (lo : Int64) (hi : Int64)  : CI l yX4_in wsX4_in rmX4_in E [.long v, .long lo, .long hi] [] [] (bI (inR v lo hi)) := by
  refine CI.of (own := RX4) (cc := cX4_in) (nL := 6) (rt := (some .boolean)) (by decide) rfl rfl (Nat.le_of_ble_eq_true rfl) (fun X hX hQ => ?_)
  show G E X 6 0 [(0, .long v), (2, .long lo), (4, .long hi)] [] []
  refine G.lload_n hX 0 rfl dX4_in_0 ?_
  refine G.lload_n hX 1 rfl dX4_in_1 ?_
  refine G.lcmp hX dX4_in_2 ?_
  refine G.c_lt hX (tgt := 17) (by decide) dX4_in_3 (fun c3 => ?_) (fun c3 => ?_)
  · refine G.iconst hX (v := 0) (by decide) dX4_in_17 ?_
    exact G.zret hX hQ rfl dX4_in_18 (bI_0.mpr (by first | rfl | (simp only [inR, c3, ↓reduceIte, Bool.not_true, Bool.not_false, Bool.and_true, Bool.true_and, Bool.and_false, Bool.false_and, Bool.or_true, Bool.true_or, Bool.or_false, Bool.false_or, decide_true, decide_false, not_true_eq_false, not_false_eq_true, Bool.false_eq_true, Bool.true_eq_false]; done) | (simp only [inR, c3, ↓reduceIte, Bool.not_true, Bool.not_false, Bool.and_true, Bool.true_and, Bool.and_false, Bool.false_and, Bool.or_true, Bool.true_or, Bool.or_false, Bool.false_or, decide_true, decide_false, not_true_eq_false, not_false_eq_true, Bool.false_eq_true, Bool.true_eq_false]; rfl) | (simp [inR, c3]; done))).symm (by rfl)
  · refine G.lload_n hX 0 rfl dX4_in_6 ?_
    refine G.lload hX 2 rfl dX4_in_7 ?_
    refine G.lcmp hX dX4_in_9 ?_
    refine G.c_gt hX (tgt := 17) (by decide) dX4_in_10 (fun c10 => ?_) (fun c10 => ?_)
    · refine G.iconst hX (v := 0) (by decide) dX4_in_17 ?_
      exact G.zret hX hQ rfl dX4_in_18 (bI_0.mpr (by first | rfl | (simp only [inR, c3, c10, ↓reduceIte, Bool.not_true, Bool.not_false, Bool.and_true, Bool.true_and, Bool.and_false, Bool.false_and, Bool.or_true, Bool.true_or, Bool.or_false, Bool.false_or, decide_true, decide_false, not_true_eq_false, not_false_eq_true, Bool.false_eq_true, Bool.true_eq_false]; done) | (simp only [inR, c3, c10, ↓reduceIte, Bool.not_true, Bool.not_false, Bool.and_true, Bool.true_and, Bool.and_false, Bool.false_and, Bool.or_true, Bool.true_or, Bool.or_false, Bool.false_or, decide_true, decide_false, not_true_eq_false, not_false_eq_true, Bool.false_eq_true, Bool.true_eq_false]; rfl) | (simp [inR, c3, c10]; done))).symm (by rfl)
    · refine G.iconst hX (v := 1) (by decide) dX4_in_13 ?_
      refine G.goto hX (tgt := 18) (by decide) dX4_in_14 ?_
      exact G.zret hX hQ rfl dX4_in_18 (bI_1.mpr (by first | rfl | (simp only [inR, c3, c10, ↓reduceIte, Bool.not_true, Bool.not_false, Bool.and_true, Bool.true_and, Bool.and_false, Bool.false_and, Bool.or_true, Bool.true_or, Bool.or_false, Bool.false_or, decide_true, decide_false, not_true_eq_false, not_false_eq_true, Bool.false_eq_true, Bool.true_eq_false]; done) | (simp only [inR, c3, c10, ↓reduceIte, Bool.not_true, Bool.not_false, Bool.and_true, Bool.true_and, Bool.and_false, Bool.false_and, Bool.or_true, Bool.true_or, Bool.or_false, Bool.false_or, decide_true, decide_false, not_true_eq_false, not_false_eq_true, Bool.false_eq_true, Bool.true_eq_false]; rfl) | (simp [inR, c3, c10]; done))).symm (by rfl)
abbrev rmX4_isTree : Room := { frames := 1, cells := 0, slots := 0, locals := 25 }
theorem cp_X4_isTree : CP yX4_isTree RX4 wsX4_isTree 1 1 rmX4_isTree := ⟨⟨_, _, _, rfl⟩, rfl, rfl, by decide +kernel⟩
set_option maxHeartbeats 4000000 in
set_option maxRecDepth 100000 in
theorem c_X4_isTreen (l : Launch) (E : EV) (x : Nat) (h1 : x < 12) : CI l yX4_isTree wsX4_isTree rmX4_isTree E [.int (nI x)] [] [] 1 := by
  refine CI.of (own := RX4) (cc := cX4_isTree) (nL := 1) (rt := (some .boolean)) (by decide) rfl rfl (Nat.le_of_ble_eq_true rfl) (fun X hX hQ => ?_)
  show G E X 1 0 [(0, .int (nI x))] [] []
  refine G.iload_n hX 0 rfl dX4_isTree_0 ?_
  refine G.i2l hX dX4_isTree_1 ?_
  refine G.le (y := lN x) (nI_l (by omega)) ?_
  refine G.lconst hX (v := 0) (by decide) dX4_isTree_2 ?_
  refine G.ldc2 hX (v := 11) (by decide +kernel) dX4_isTree_3 ?_
  refine G.s0i hX (As := [.long (lN x), .long 0, .long 11]) (st := []) (c_X4_inn _ E (v := x) (lo := 0) (hi := 11) (h1 := by omega) (h2 := by omega) (h3 := by omega)) gX4_isTree_X4_in cp_X4_in (by decide) rfl rfl (Nat.le_of_ble_eq_true rfl) dX4_isTree_6 ?_
  exact G.zret hX hQ rfl dX4_isTree_9 (by rfl) (by rfl)
set_option maxHeartbeats 4000000 in
set_option maxRecDepth 100000 in
theorem c_X4_isTree (l : Launch) (E : EV) (x : Int32)  : CI l yX4_isTree wsX4_isTree rmX4_isTree E [.int x] [] [] (bI (inI x 0 11)) := by
  refine CI.of (own := RX4) (cc := cX4_isTree) (nL := 1) (rt := (some .boolean)) (by decide) rfl rfl (Nat.le_of_ble_eq_true rfl) (fun X hX hQ => ?_)
  show G E X 1 0 [(0, .int x)] [] []
  refine G.iload_n hX 0 rfl dX4_isTree_0 ?_
  refine G.i2l hX dX4_isTree_1 ?_
  refine G.lconst hX (v := 0) (by decide) dX4_isTree_2 ?_
  refine G.ldc2 hX (v := 11) (by decide +kernel) dX4_isTree_3 ?_
  refine G.s0i hX (As := [.long x.toInt64, .long 0, .long 11]) (st := []) (c_X4_in _ E (v := x.toInt64) (lo := 0) (hi := 11) ) gX4_isTree_X4_in cp_X4_in (by decide) rfl rfl (Nat.le_of_ble_eq_true rfl) dX4_isTree_6 ?_
  exact G.zret hX hQ (bI_z _) dX4_isTree_9 (by first | rfl | (simp only [inI, ↓reduceIte, Bool.not_true, Bool.not_false, Bool.and_true, Bool.true_and, Bool.and_false, Bool.false_and, Bool.or_true, Bool.true_or, Bool.or_false, Bool.false_or, decide_true, decide_false, not_true_eq_false, not_false_eq_true, Bool.false_eq_true, Bool.true_eq_false]; done) | (simp only [inI, ↓reduceIte, Bool.not_true, Bool.not_false, Bool.and_true, Bool.true_and, Bool.and_false, Bool.false_and, Bool.or_true, Bool.true_or, Bool.or_false, Bool.false_or, decide_true, decide_false, not_true_eq_false, not_false_eq_true, Bool.false_eq_true, Bool.true_eq_false]; rfl) | (simp [inI]; done)) (by rfl)
abbrev rmX4_isMessage : Room := { frames := 1, cells := 0, slots := 0, locals := 25 }
theorem cp_X4_isMessage : CP yX4_isMessage RX4 wsX4_isMessage 1 1 rmX4_isMessage := ⟨⟨_, _, _, rfl⟩, rfl, rfl, by decide +kernel⟩
set_option maxHeartbeats 4000000 in
set_option maxRecDepth 100000 in
theorem c_X4_isMessagen (l : Launch) (E : EV) (x : Nat) (h1 : x < 8) : CI l yX4_isMessage wsX4_isMessage rmX4_isMessage E [.int (nI x)] [] [] 1 := by
  refine CI.of (own := RX4) (cc := cX4_isMessage) (nL := 1) (rt := (some .boolean)) (by decide) rfl rfl (Nat.le_of_ble_eq_true rfl) (fun X hX hQ => ?_)
  show G E X 1 0 [(0, .int (nI x))] [] []
  refine G.iload_n hX 0 rfl dX4_isMessage_0 ?_
  refine G.i2l hX dX4_isMessage_1 ?_
  refine G.le (y := lN x) (nI_l (by omega)) ?_
  refine G.lconst hX (v := 0) (by decide) dX4_isMessage_2 ?_
  refine G.ldc2 hX (v := 7) (by decide +kernel) dX4_isMessage_3 ?_
  refine G.s0i hX (As := [.long (lN x), .long 0, .long 7]) (st := []) (c_X4_inn _ E (v := x) (lo := 0) (hi := 7) (h1 := by omega) (h2 := by omega) (h3 := by omega)) gX4_isMessage_X4_in cp_X4_in (by decide) rfl rfl (Nat.le_of_ble_eq_true rfl) dX4_isMessage_6 ?_
  exact G.zret hX hQ rfl dX4_isMessage_9 (by rfl) (by rfl)
set_option maxHeartbeats 4000000 in
set_option maxRecDepth 100000 in
theorem c_X4_isMessage (l : Launch) (E : EV) (x : Int32)  : CI l yX4_isMessage wsX4_isMessage rmX4_isMessage E [.int x] [] [] (bI (inI x 0 7)) := by
  refine CI.of (own := RX4) (cc := cX4_isMessage) (nL := 1) (rt := (some .boolean)) (by decide) rfl rfl (Nat.le_of_ble_eq_true rfl) (fun X hX hQ => ?_)
  show G E X 1 0 [(0, .int x)] [] []
  refine G.iload_n hX 0 rfl dX4_isMessage_0 ?_
  refine G.i2l hX dX4_isMessage_1 ?_
  refine G.lconst hX (v := 0) (by decide) dX4_isMessage_2 ?_
  refine G.ldc2 hX (v := 7) (by decide +kernel) dX4_isMessage_3 ?_
  refine G.s0i hX (As := [.long x.toInt64, .long 0, .long 7]) (st := []) (c_X4_in _ E (v := x.toInt64) (lo := 0) (hi := 7) ) gX4_isMessage_X4_in cp_X4_in (by decide) rfl rfl (Nat.le_of_ble_eq_true rfl) dX4_isMessage_6 ?_
  exact G.zret hX hQ (bI_z _) dX4_isMessage_9 (by first | rfl | (simp only [inI, ↓reduceIte, Bool.not_true, Bool.not_false, Bool.and_true, Bool.true_and, Bool.and_false, Bool.false_and, Bool.or_true, Bool.true_or, Bool.or_false, Bool.false_or, decide_true, decide_false, not_true_eq_false, not_false_eq_true, Bool.false_eq_true, Bool.true_eq_false]; done) | (simp only [inI, ↓reduceIte, Bool.not_true, Bool.not_false, Bool.and_true, Bool.true_and, Bool.and_false, Bool.false_and, Bool.or_true, Bool.true_or, Bool.or_false, Bool.false_or, decide_true, decide_false, not_true_eq_false, not_false_eq_true, Bool.false_eq_true, Bool.true_eq_false]; rfl) | (simp [inI]; done)) (by rfl)
abbrev rmX4_isKind : Room := { frames := 1, cells := 0, slots := 0, locals := 25 }
theorem cp_X4_isKind : CP yX4_isKind RX4 wsX4_isKind 1 1 rmX4_isKind := ⟨⟨_, _, _, rfl⟩, rfl, rfl, by decide +kernel⟩
set_option maxHeartbeats 4000000 in
set_option maxRecDepth 100000 in
theorem c_X4_isKindn (l : Launch) (E : EV) (x : Nat) (h1 : x < 6) : CI l yX4_isKind wsX4_isKind rmX4_isKind E [.int (nI x)] [] [] 1 := by
  refine CI.of (own := RX4) (cc := cX4_isKind) (nL := 1) (rt := (some .boolean)) (by decide) rfl rfl (Nat.le_of_ble_eq_true rfl) (fun X hX hQ => ?_)
  show G E X 1 0 [(0, .int (nI x))] [] []
  refine G.iload_n hX 0 rfl dX4_isKind_0 ?_
  refine G.i2l hX dX4_isKind_1 ?_
  refine G.le (y := lN x) (nI_l (by omega)) ?_
  refine G.lconst hX (v := 0) (by decide) dX4_isKind_2 ?_
  refine G.ldc2 hX (v := 5) (by decide +kernel) dX4_isKind_3 ?_
  refine G.s0i hX (As := [.long (lN x), .long 0, .long 5]) (st := []) (c_X4_inn _ E (v := x) (lo := 0) (hi := 5) (h1 := by omega) (h2 := by omega) (h3 := by omega)) gX4_isKind_X4_in cp_X4_in (by decide) rfl rfl (Nat.le_of_ble_eq_true rfl) dX4_isKind_6 ?_
  exact G.zret hX hQ rfl dX4_isKind_9 (by rfl) (by rfl)
set_option maxHeartbeats 4000000 in
set_option maxRecDepth 100000 in
theorem c_X4_isKind (l : Launch) (E : EV) (x : Int32)  : CI l yX4_isKind wsX4_isKind rmX4_isKind E [.int x] [] [] (bI (inI x 0 5)) := by
  refine CI.of (own := RX4) (cc := cX4_isKind) (nL := 1) (rt := (some .boolean)) (by decide) rfl rfl (Nat.le_of_ble_eq_true rfl) (fun X hX hQ => ?_)
  show G E X 1 0 [(0, .int x)] [] []
  refine G.iload_n hX 0 rfl dX4_isKind_0 ?_
  refine G.i2l hX dX4_isKind_1 ?_
  refine G.lconst hX (v := 0) (by decide) dX4_isKind_2 ?_
  refine G.ldc2 hX (v := 5) (by decide +kernel) dX4_isKind_3 ?_
  refine G.s0i hX (As := [.long x.toInt64, .long 0, .long 5]) (st := []) (c_X4_in _ E (v := x.toInt64) (lo := 0) (hi := 5) ) gX4_isKind_X4_in cp_X4_in (by decide) rfl rfl (Nat.le_of_ble_eq_true rfl) dX4_isKind_6 ?_
  exact G.zret hX hQ (bI_z _) dX4_isKind_9 (by first | rfl | (simp only [inI, ↓reduceIte, Bool.not_true, Bool.not_false, Bool.and_true, Bool.true_and, Bool.and_false, Bool.false_and, Bool.or_true, Bool.true_or, Bool.or_false, Bool.false_or, decide_true, decide_false, not_true_eq_false, not_false_eq_true, Bool.false_eq_true, Bool.true_eq_false]; done) | (simp only [inI, ↓reduceIte, Bool.not_true, Bool.not_false, Bool.and_true, Bool.true_and, Bool.and_false, Bool.false_and, Bool.or_true, Bool.true_or, Bool.or_false, Bool.false_or, decide_true, decide_false, not_true_eq_false, not_false_eq_true, Bool.false_eq_true, Bool.true_eq_false]; rfl) | (simp [inI]; done)) (by rfl)
abbrev rmX4_isOne : Room := { frames := 1, cells := 0, slots := 0, locals := 25 }
theorem cp_X4_isOne : CP yX4_isOne RX4 wsX4_isOne 1 1 rmX4_isOne := ⟨⟨_, _, _, rfl⟩, rfl, rfl, by decide +kernel⟩
set_option maxHeartbeats 4000000 in
set_option maxRecDepth 100000 in
theorem c_X4_isOnen (l : Launch) (E : EV) (x : Nat) (h1 : x < 4) : CI l yX4_isOne wsX4_isOne rmX4_isOne E [.int (nI x)] [] [] 1 := by
  refine CI.of (own := RX4) (cc := cX4_isOne) (nL := 1) (rt := (some .boolean)) (by decide) rfl rfl (Nat.le_of_ble_eq_true rfl) (fun X hX hQ => ?_)
  show G E X 1 0 [(0, .int (nI x))] [] []
  refine G.iload_n hX 0 rfl dX4_isOne_0 ?_
  refine G.i2l hX dX4_isOne_1 ?_
  refine G.le (y := lN x) (nI_l (by omega)) ?_
  refine G.lconst hX (v := 0) (by decide) dX4_isOne_2 ?_
  refine G.ldc2 hX (v := 3) (by decide +kernel) dX4_isOne_3 ?_
  refine G.s0i hX (As := [.long (lN x), .long 0, .long 3]) (st := []) (c_X4_inn _ E (v := x) (lo := 0) (hi := 3) (h1 := by omega) (h2 := by omega) (h3 := by omega)) gX4_isOne_X4_in cp_X4_in (by decide) rfl rfl (Nat.le_of_ble_eq_true rfl) dX4_isOne_6 ?_
  exact G.zret hX hQ rfl dX4_isOne_9 (by rfl) (by rfl)
set_option maxHeartbeats 4000000 in
set_option maxRecDepth 100000 in
theorem c_X4_isOne (l : Launch) (E : EV) (x : Int32)  : CI l yX4_isOne wsX4_isOne rmX4_isOne E [.int x] [] [] (bI (inI x 0 3)) := by
  refine CI.of (own := RX4) (cc := cX4_isOne) (nL := 1) (rt := (some .boolean)) (by decide) rfl rfl (Nat.le_of_ble_eq_true rfl) (fun X hX hQ => ?_)
  show G E X 1 0 [(0, .int x)] [] []
  refine G.iload_n hX 0 rfl dX4_isOne_0 ?_
  refine G.i2l hX dX4_isOne_1 ?_
  refine G.lconst hX (v := 0) (by decide) dX4_isOne_2 ?_
  refine G.ldc2 hX (v := 3) (by decide +kernel) dX4_isOne_3 ?_
  refine G.s0i hX (As := [.long x.toInt64, .long 0, .long 3]) (st := []) (c_X4_in _ E (v := x.toInt64) (lo := 0) (hi := 3) ) gX4_isOne_X4_in cp_X4_in (by decide) rfl rfl (Nat.le_of_ble_eq_true rfl) dX4_isOne_6 ?_
  exact G.zret hX hQ (bI_z _) dX4_isOne_9 (by first | rfl | (simp only [inI, ↓reduceIte, Bool.not_true, Bool.not_false, Bool.and_true, Bool.true_and, Bool.and_false, Bool.false_and, Bool.or_true, Bool.true_or, Bool.or_false, Bool.false_or, decide_true, decide_false, not_true_eq_false, not_false_eq_true, Bool.false_eq_true, Bool.true_eq_false]; done) | (simp only [inI, ↓reduceIte, Bool.not_true, Bool.not_false, Bool.and_true, Bool.true_and, Bool.and_false, Bool.false_and, Bool.or_true, Bool.true_or, Bool.or_false, Bool.false_or, decide_true, decide_false, not_true_eq_false, not_false_eq_true, Bool.false_eq_true, Bool.true_eq_false]; rfl) | (simp [inI]; done)) (by rfl)
abbrev rmX4_isLetter : Room := { frames := 1, cells := 0, slots := 0, locals := 25 }
theorem cp_X4_isLetter : CP yX4_isLetter RX4 wsX4_isLetter 1 1 rmX4_isLetter := ⟨⟨_, _, _, rfl⟩, rfl, rfl, by decide +kernel⟩
set_option maxHeartbeats 4000000 in
set_option maxRecDepth 100000 in
theorem c_X4_isLetter (l : Launch) (E : EV) (x : Int32)  : CI l yX4_isLetter wsX4_isLetter rmX4_isLetter E [.int x] [] [] (bI (inI x 97 122)) := by
  refine CI.of (own := RX4) (cc := cX4_isLetter) (nL := 1) (rt := (some .boolean)) (by decide) rfl rfl (Nat.le_of_ble_eq_true rfl) (fun X hX hQ => ?_)
  show G E X 1 0 [(0, .int x)] [] []
  refine G.iload_n hX 0 rfl dX4_isLetter_0 ?_
  refine G.i2l hX dX4_isLetter_1 ?_
  refine G.ldc2 hX (v := 97) (by decide +kernel) dX4_isLetter_2 ?_
  refine G.ldc2 hX (v := 122) (by decide +kernel) dX4_isLetter_5 ?_
  refine G.s0i hX (As := [.long x.toInt64, .long 97, .long 122]) (st := []) (c_X4_in _ E (v := x.toInt64) (lo := 97) (hi := 122) ) gX4_isLetter_X4_in cp_X4_in (by decide) rfl rfl (Nat.le_of_ble_eq_true rfl) dX4_isLetter_8 ?_
  exact G.zret hX hQ (bI_z _) dX4_isLetter_11 (by first | rfl | (simp only [inI, ↓reduceIte, Bool.not_true, Bool.not_false, Bool.and_true, Bool.true_and, Bool.and_false, Bool.false_and, Bool.or_true, Bool.true_or, Bool.or_false, Bool.false_or, decide_true, decide_false, not_true_eq_false, not_false_eq_true, Bool.false_eq_true, Bool.true_eq_false]; done) | (simp only [inI, ↓reduceIte, Bool.not_true, Bool.not_false, Bool.and_true, Bool.true_and, Bool.and_false, Bool.false_and, Bool.or_true, Bool.true_or, Bool.or_false, Bool.false_or, decide_true, decide_false, not_true_eq_false, not_false_eq_true, Bool.false_eq_true, Bool.true_eq_false]; rfl) | (simp [inI]; done)) (by rfl)
abbrev rmX4_isDigit : Room := { frames := 1, cells := 0, slots := 0, locals := 25 }
theorem cp_X4_isDigit : CP yX4_isDigit RX4 wsX4_isDigit 1 1 rmX4_isDigit := ⟨⟨_, _, _, rfl⟩, rfl, rfl, by decide +kernel⟩
set_option maxHeartbeats 4000000 in
set_option maxRecDepth 100000 in
theorem c_X4_isDigit (l : Launch) (E : EV) (x : Int32)  : CI l yX4_isDigit wsX4_isDigit rmX4_isDigit E [.int x] [] [] (bI (inI x 48 57)) := by
  refine CI.of (own := RX4) (cc := cX4_isDigit) (nL := 1) (rt := (some .boolean)) (by decide) rfl rfl (Nat.le_of_ble_eq_true rfl) (fun X hX hQ => ?_)
  show G E X 1 0 [(0, .int x)] [] []
  refine G.iload_n hX 0 rfl dX4_isDigit_0 ?_
  refine G.i2l hX dX4_isDigit_1 ?_
  refine G.ldc2 hX (v := 48) (by decide +kernel) dX4_isDigit_2 ?_
  refine G.ldc2 hX (v := 57) (by decide +kernel) dX4_isDigit_5 ?_
  refine G.s0i hX (As := [.long x.toInt64, .long 48, .long 57]) (st := []) (c_X4_in _ E (v := x.toInt64) (lo := 48) (hi := 57) ) gX4_isDigit_X4_in cp_X4_in (by decide) rfl rfl (Nat.le_of_ble_eq_true rfl) dX4_isDigit_8 ?_
  exact G.zret hX hQ (bI_z _) dX4_isDigit_11 (by first | rfl | (simp only [inI, ↓reduceIte, Bool.not_true, Bool.not_false, Bool.and_true, Bool.true_and, Bool.and_false, Bool.false_and, Bool.or_true, Bool.true_or, Bool.or_false, Bool.false_or, decide_true, decide_false, not_true_eq_false, not_false_eq_true, Bool.false_eq_true, Bool.true_eq_false]; done) | (simp only [inI, ↓reduceIte, Bool.not_true, Bool.not_false, Bool.and_true, Bool.true_and, Bool.and_false, Bool.false_and, Bool.or_true, Bool.true_or, Bool.or_false, Bool.false_or, decide_true, decide_false, not_true_eq_false, not_false_eq_true, Bool.false_eq_true, Bool.true_eq_false]; rfl) | (simp [inI]; done)) (by rfl)
abbrev rmX4_spotOf : Room := { frames := 0, cells := 0, slots := 0, locals := 0 }
theorem cp_X4_spotOf : CP yX4_spotOf RX4 wsX4_spotOf 2 2 rmX4_spotOf := ⟨⟨_, _, _, rfl⟩, rfl, rfl, by decide +kernel⟩
set_option maxHeartbeats 4000000 in
set_option maxRecDepth 100000 in
theorem c_X4_spotOf (l : Launch) (E : EV) (t : Nat) (w : Nat)  : CI l yX4_spotOf wsX4_spotOf rmX4_spotOf E [.int (nI t), .int (nI w)] [] [] (nI (2 + 10 * t + w)) := by
  refine CI.of (own := RX4) (cc := cX4_spotOf) (nL := 2) (rt := (some .int)) (by decide) rfl rfl (Nat.le_of_ble_eq_true rfl) (fun X hX hQ => ?_)
  show G E X 2 0 [(0, .int (nI t)), (1, .int (nI w))] [] []
  refine G.iconst hX (v := 2) (by decide) dX4_spotOf_0 ?_
  refine G.bipush hX (v := 10) (by decide) dX4_spotOf_1 ?_
  refine G.iload_n hX 0 rfl dX4_spotOf_3 ?_
  refine G.imul hX dX4_spotOf_4 ?_
  refine G.ie (pk_mul 10 t) ?_
  refine G.iadd hX dX4_spotOf_5 ?_
  refine G.ie (nI_add 2 (10 * t)) ?_
  refine G.iload_n hX 1 rfl dX4_spotOf_6 ?_
  refine G.iadd hX dX4_spotOf_7 ?_
  refine G.ie (nI_add (2 + (10 * t)) w) ?_
  exact G.iret hX hQ dX4_spotOf_8 (by first | rfl | (simp only [↓reduceIte, Bool.not_true, Bool.not_false, Bool.and_true, Bool.true_and, Bool.and_false, Bool.false_and, Bool.or_true, Bool.true_or, Bool.or_false, Bool.false_or, decide_true, decide_false, not_true_eq_false, not_false_eq_true, Bool.false_eq_true, Bool.true_eq_false]; done) | (simp only [↓reduceIte, Bool.not_true, Bool.not_false, Bool.and_true, Bool.true_and, Bool.and_false, Bool.false_and, Bool.or_true, Bool.true_or, Bool.or_false, Bool.false_or, decide_true, decide_false, not_true_eq_false, not_false_eq_true, Bool.false_eq_true, Bool.true_eq_false]; rfl) | (simp []; done)) (by rfl)
abbrev rmX4_ones : Room := { frames := 0, cells := 0, slots := 0, locals := 0 }
theorem cp_X4_ones : CP yX4_ones RX4 wsX4_ones 3 1 rmX4_ones := ⟨⟨_, _, _, rfl⟩, rfl, rfl, by decide +kernel⟩
set_option maxHeartbeats 4000000 in
set_option maxRecDepth 100000 in
theorem c_X4_ones (l : Launch) (E : EV) (k : Nat) (h1 : k < 256) : CI l yX4_ones wsX4_ones rmX4_ones E [.int (nI k)] [] [] (nI (pc8 k)) := by
  refine CI.of (own := RX4) (cc := cX4_ones) (nL := 3) (rt := (some .int)) (by decide) rfl rfl (Nat.le_of_ble_eq_true rfl) (fun X hX hQ => ?_)
  show G E X 3 0 [(0, .int (nI k))] [] []
  refine G.iconst hX (v := 0) (by decide) dX4_ones_0 ?_
  refine G.istore_n hX (lv' := [(1, .int 0), (0, .int (nI k))]) rfl (by decide) rfl dX4_ones_1 ?_
  refine G.iload_n hX 1 rfl dX4_ones_2 ?_
  refine G.istore_n hX (lv' := [(2, .int (nI k)), (1, .int 0), (0, .int (nI k))]) rfl (by decide) rfl dX4_ones_3 ?_
  have L4 : ∀ (n : Nat) (j : Nat) (c : Nat), j < 256 → c + pc8 j = pc8 k → pc8 k ≤ 8 → j + 1 ≤ n → G E X 3 4 [(0, .int (nI k)), (1, .int (nI c)), (2, .int (nI j))] [] [] := by
    intro n
    induction n with
    | zero => intro j c hl4_0 hl4_1 hl4_2 hl4_3; exact absurd hl4_3 (by omega)
    | succ n ih4 =>
      intro j c hl4_0 hl4_1 hl4_2 hl4_3
      refine G.iload_n hX 2 rfl dX4_ones_4 ?_
      refine G.z_eq hX (a := j) (tgt := 20) (by omega) (by decide) dX4_ones_5 (fun c5 => ?_) (fun c5 => ?_)
      · refine G.iload_n hX 1 rfl dX4_ones_20 ?_
        exact G.iret hX hQ dX4_ones_21 (by have hj0 : j = 0 := c5; subst hj0; have e0 : pc8 0 = 0 := rfl; rw [e0] at hl4_1; rw [← hl4_1]; rfl) (by rfl)
      · have hj0 : 0 < j := Nat.pos_of_ne_zero c5
        have e4 := pc8_step j hl4_0 hj0
        refine G.iinc hX (n := 1) (lv' := [(1, .int (nI (c + 1))), (0, .int (nI k)), (2, .int (nI j))]) 1 rfl (inc_nI c 1 rfl) (by decide) rfl dX4_ones_8 ?_
        refine G.iload_n hX 2 rfl dX4_ones_11 ?_
        refine G.iload_n hX 2 rfl dX4_ones_12 ?_
        refine G.iconst hX (v := 1) (by decide) dX4_ones_13 ?_
        refine G.isub hX dX4_ones_14 ?_
        refine G.iand hX dX4_ones_15 ?_
        refine G.ie (y := nI (j &&& (j - 1))) (by exact e4.1) ?_
        refine G.istore_n hX (lv' := [(2, .int (nI (j &&& (j - 1)))), (1, .int (nI (c + 1))), (0, .int (nI k))]) rfl (by decide) rfl dX4_ones_16 ?_
        refine G.goto hX (tgt := 4) (by decide) dX4_ones_17 ?_
        refine G.lvp (lv' := [(0, .int (nI k)), (1, .int (nI (c + 1))), (2, .int (nI (j &&& (j - 1))))]) [2, 1, 0] rfl ?_
        refine G.lve (lv' := [(0, .int (nI k)), (1, .int (nI ((c + 1)))), (2, .int (nI ((j &&& (j - 1)))))]) (by rfl) ?_
        exact ih4 (j &&& (j - 1)) (c + 1) (by omega) (by omega) hl4_2 (by omega)
  refine G.lvp (lv' := [(0, .int (nI k)), (1, .int 0), (2, .int (nI k))]) [2, 1, 0] rfl ?_
  refine G.lve (lv' := [(0, .int (nI k)), (1, .int (nI 0)), (2, .int (nI k))]) (by rfl) ?_
  exact L4 (k + 1) k 0 h1 (by omega) (pc8_le k) (Nat.le_refl _)
abbrev rmX4_its : Room := { frames := 1, cells := 0, slots := 0, locals := 21 }
theorem cp_X4_its : CP yX4_its RX4 wsX4_its 3 2 rmX4_its := ⟨⟨_, _, _, rfl⟩, rfl, rfl, by decide +kernel⟩
theorem inc_X4_its_4 : ∀ w ∈ u_ws RX4 TX4 19, w ∈ wsX4_its := by decide +kernel
set_option maxHeartbeats 4000000 in
set_option maxRecDepth 100000 in
theorem c_X4_its (l : Launch) (E : EV) (t : Nat) (w : Nat) (o : Nat → Nat) (ik : Int32) (be : Int32) (so : Int32) (tp : Int32) (fr : Int32) (tq : Int32) (vl : Int32) (wr : Int32) (s : Nat → Int32) (h1 : 2 + 10 * t + w < 122) : CI l yX4_its wsX4_its rmX4_its E [.ref (o 0), .int (nI t), .int (nI w)] [(o 0, moO o ik be so tp fr tq vl wr), (o 1, arI E 122 s)] [(o 0, moO o ik be so tp fr tq vl wr), (o 1, arI E 122 s)] (s (2 + 10 * t + w)) := by
  refine CI.of (own := RX4) (cc := cX4_its) (nL := 3) (rt := (some .int)) (by decide) rfl rfl (Nat.le_of_ble_eq_true rfl) (fun X hX hQ => ?_)
  show G E X 3 0 [(0, .ref (o 0)), (1, .int (nI t)), (2, .int (nI w))] [] [(o 0, moO o ik be so tp fr tq vl wr), (o 1, arI E 122 s)]
  refine G.aload_n hX 0 rfl dX4_its_0 ?_
  refine G.get hX inc_X4_its_4 0 rfl rfl 0 (by decide) (by decide +kernel) rfl dX4_its_1 ?_
  refine G.iload_n hX 1 rfl dX4_its_4 ?_
  refine G.iload_n hX 2 rfl dX4_its_5 ?_
  refine G.s0i hX (As := [.int (nI t), .int (nI w)]) (st := [.ref (o 1)]) (c_X4_spotOf _ E (t := t) (w := w) ) gX4_its_X4_spotOf cp_X4_spotOf (by decide) rfl rfl (Nat.le_of_ble_eq_true rfl) dX4_its_6 ?_
  refine G.iald hX (j := 2 + 10 * t + w) 1 rfl (by omega) (by omega) dX4_its_9 ?_
  exact G.iret hX hQ dX4_its_10 (by rfl) (by rfl)
abbrev rmX4_sinceOf : Room := { frames := 2, cells := 0, slots := 0, locals := 43 }
theorem cp_X4_sinceOf : CP yX4_sinceOf RX4 wsX4_sinceOf 3 2 rmX4_sinceOf := ⟨⟨_, _, _, rfl⟩, rfl, rfl, by decide +kernel⟩
set_option maxHeartbeats 4000000 in
set_option maxRecDepth 100000 in
theorem c_X4_sinceOf (l : Launch) (E : EV) (t : Nat) (m : Nat) (o : Nat → Nat) (ik : Int32) (be : Int32) (so : Int32) (tp : Int32) (fr : Int32) (tq : Int32) (vl : Int32) (wr : Int32) (s : Nat → Int32) (h1 : t < 12) (h2 : m < 8) : CI l yX4_sinceOf wsX4_sinceOf rmX4_sinceOf E [.ref (o 0), .int (nI t), .int (nI m)] [(o 0, moO o ik be so tp fr tq vl wr), (o 1, arI E 122 s)] [(o 0, moO o ik be so tp fr tq vl wr), (o 1, arI E 122 s)] (s (2 + 10 * t + (2 + m))) := by
  refine CI.of (own := RX4) (cc := cX4_sinceOf) (nL := 3) (rt := (some .int)) (by decide) rfl rfl (Nat.le_of_ble_eq_true rfl) (fun X hX hQ => ?_)
  show G E X 3 0 [(0, .ref (o 0)), (1, .int (nI t)), (2, .int (nI m))] [] [(o 0, moO o ik be so tp fr tq vl wr), (o 1, arI E 122 s)]
  refine G.aload_n hX 0 rfl dX4_sinceOf_0 ?_
  refine G.iload_n hX 1 rfl dX4_sinceOf_1 ?_
  refine G.iconst hX (v := 2) (by decide) dX4_sinceOf_2 ?_
  refine G.iload_n hX 2 rfl dX4_sinceOf_3 ?_
  refine G.iadd hX dX4_sinceOf_4 ?_
  refine G.ie (nI_add 2 m) ?_
  refine G.vi hX (As := [.int (nI t), .int (nI (2 + m))]) (st := []) (wr := []) (wf := [(o 0, moO o ik be so tp fr tq vl wr), (o 1, arI E 122 s)]) (q0 := 0) (ci := 4) rfl rfl (c_X4_its _ E (t := t) (w := 2 + m) (o := o) (ik := ik) (be := be) (so := so) (tp := tp) (fr := fr) (tq := tq) (vl := vl) (wr := wr) (s := s) (h1 := by omega)) gX4_sinceOf_X4_its cp_X4_its (by decide) [0, 1] [] [0, 1] ⟨rfl, rfl, by decide, rfl⟩ rfl rfl (Nat.le_of_ble_eq_true rfl) dX4_sinceOf_5 ?_
  exact G.iret hX hQ dX4_sinceOf_8 (by rfl) (by rfl)
abbrev rmX4_isKnown : Room := { frames := 3, cells := 0, slots := 0, locals := 65 }
theorem cp_X4_isKnown : CP yX4_isKnown RX4 wsX4_isKnown 3 2 rmX4_isKnown := ⟨⟨_, _, _, rfl⟩, rfl, rfl, by decide +kernel⟩
set_option maxHeartbeats 4000000 in
set_option maxRecDepth 100000 in
theorem c_X4_isKnown (l : Launch) (E : EV) (t : Nat) (m : Nat) (o : Nat → Nat) (ik : Int32) (be : Int32) (so : Int32) (tp : Int32) (fr : Int32) (tq : Int32) (vl : Int32) (wr : Int32) (s : Nat → Int32) (h1 : t < 12) (h2 : m < 8) : CI l yX4_isKnown wsX4_isKnown rmX4_isKnown E [.ref (o 0), .int (nI t), .int (nI m)] [(o 0, moO o ik be so tp fr tq vl wr), (o 1, arI E 122 s)] [(o 0, moO o ik be so tp fr tq vl wr), (o 1, arI E 122 s)] (bI (ms_k s t m)) := by
  refine CI.of (own := RX4) (cc := cX4_isKnown) (nL := 3) (rt := (some .boolean)) (by decide) rfl rfl (Nat.le_of_ble_eq_true rfl) (fun X hX hQ => ?_)
  show G E X 3 0 [(0, .ref (o 0)), (1, .int (nI t)), (2, .int (nI m))] [] [(o 0, moO o ik be so tp fr tq vl wr), (o 1, arI E 122 s)]
  refine G.aload_n hX 0 rfl dX4_isKnown_0 ?_
  refine G.iload_n hX 1 rfl dX4_isKnown_1 ?_
  refine G.iload_n hX 2 rfl dX4_isKnown_2 ?_
  refine G.vi hX (As := [.int (nI t), .int (nI m)]) (st := []) (wr := []) (wf := [(o 0, moO o ik be so tp fr tq vl wr), (o 1, arI E 122 s)]) (q0 := 0) (ci := 4) rfl rfl (c_X4_sinceOf _ E (t := t) (m := m) (o := o) (ik := ik) (be := be) (so := so) (tp := tp) (fr := fr) (tq := tq) (vl := vl) (wr := wr) (s := s) (h1 := by omega) (h2 := by omega)) gX4_isKnown_X4_sinceOf cp_X4_sinceOf (by decide) [0, 1] [] [0, 1] ⟨rfl, rfl, by decide, rfl⟩ rfl rfl (Nat.le_of_ble_eq_true rfl) dX4_isKnown_3 ?_
  refine G.iconst hX (v := -1) (by decide) dX4_isKnown_6 ?_
  refine G.icmp_eq hX (tgt := 14) (by decide) dX4_isKnown_7 (fun c7 => ?_) (fun c7 => ?_)
  · refine G.iconst hX (v := 0) (by decide) dX4_isKnown_14 ?_
    exact G.zret hX hQ rfl dX4_isKnown_15 (bI_0.mpr (by first | rfl | (simp only [ms_k, c7, ↓reduceIte, Bool.not_true, Bool.not_false, Bool.and_true, Bool.true_and, Bool.and_false, Bool.false_and, Bool.or_true, Bool.true_or, Bool.or_false, Bool.false_or, decide_true, decide_false, not_true_eq_false, not_false_eq_true, Bool.false_eq_true, Bool.true_eq_false]; done) | (simp only [ms_k, c7, ↓reduceIte, Bool.not_true, Bool.not_false, Bool.and_true, Bool.true_and, Bool.and_false, Bool.false_and, Bool.or_true, Bool.true_or, Bool.or_false, Bool.false_or, decide_true, decide_false, not_true_eq_false, not_false_eq_true, Bool.false_eq_true, Bool.true_eq_false]; rfl) | (simp [ms_k, c7]; done))).symm (by rfl)
  · refine G.iconst hX (v := 1) (by decide) dX4_isKnown_10 ?_
    refine G.goto hX (tgt := 15) (by decide) dX4_isKnown_11 ?_
    exact G.zret hX hQ rfl dX4_isKnown_15 (bI_1.mpr (by first | rfl | (simp only [ms_k, c7, ↓reduceIte, Bool.not_true, Bool.not_false, Bool.and_true, Bool.true_and, Bool.and_false, Bool.false_and, Bool.or_true, Bool.true_or, Bool.or_false, Bool.false_or, decide_true, decide_false, not_true_eq_false, not_false_eq_true, Bool.false_eq_true, Bool.true_eq_false]; done) | (simp only [ms_k, c7, ↓reduceIte, Bool.not_true, Bool.not_false, Bool.and_true, Bool.true_and, Bool.and_false, Bool.false_and, Bool.or_true, Bool.true_or, Bool.or_false, Bool.false_or, decide_true, decide_false, not_true_eq_false, not_false_eq_true, Bool.false_eq_true, Bool.true_eq_false]; rfl) | (simp [ms_k, c7]; done))).symm (by rfl)
abbrev rmX4_becomes : Room := { frames := 0, cells := 0, slots := 0, locals := 0 }
theorem cp_X4_becomes : CP yX4_becomes RX4 wsX4_becomes 4 2 rmX4_becomes := ⟨⟨_, _, _, rfl⟩, rfl, rfl, by decide +kernel⟩
theorem inc_X4_becomes_4 : ∀ w ∈ u_ws RX4 TX4 19, w ∈ wsX4_becomes := by decide +kernel
set_option maxHeartbeats 4000000 in
set_option maxRecDepth 100000 in
theorem c_X4_becomes (l : Launch) (E : EV) (w : Nat) (v : Int32) (o : Nat → Nat) (ik : Int32) (be : Int32) (so : Int32) (tp : Int32) (fr : Int32) (tq : Int32) (vl : Int32) (wr : Int32) (s : Nat → Int32) (h1 : w < 122) : CI l yX4_becomes wsX4_becomes rmX4_becomes E [.ref (o 0), .int (nI w), .int v] [(o 0, moO o ik be so tp fr tq vl wr), (o 1, arI E 122 s)] [(o 0, moO o ik be so tp fr tq vl wr), (o 1, arI E 122 (upd s w v))] (s w) := by
  refine CI.of (own := RX4) (cc := cX4_becomes) (nL := 4) (rt := (some .int)) (by decide) rfl rfl (Nat.le_of_ble_eq_true rfl) (fun X hX hQ => ?_)
  show G E X 4 0 [(0, .ref (o 0)), (1, .int (nI w)), (2, .int v)] [] [(o 0, moO o ik be so tp fr tq vl wr), (o 1, arI E 122 s)]
  refine G.aload_n hX 0 rfl dX4_becomes_0 ?_
  refine G.get hX inc_X4_becomes_4 0 rfl rfl 0 (by decide) (by decide +kernel) rfl dX4_becomes_1 ?_
  refine G.iload_n hX 1 rfl dX4_becomes_4 ?_
  refine G.iald hX (j := w) 1 rfl (by omega) (by omega) dX4_becomes_5 ?_
  refine G.istore_n hX (lv' := [(3, .int (s w)), (0, .ref (o 0)), (1, .int (nI w)), (2, .int v)]) rfl (by decide) rfl dX4_becomes_6 ?_
  refine G.aload_n hX 1 rfl dX4_becomes_7 ?_
  refine G.get hX inc_X4_becomes_4 0 rfl rfl 0 (by decide) (by decide +kernel) rfl dX4_becomes_8 ?_
  refine G.iload_n hX 2 rfl dX4_becomes_11 ?_
  refine G.iload_n hX 3 rfl dX4_becomes_12 ?_
  refine G.iast hX (j := w) (ws' := [(o 0, moO o ik be so tp fr tq vl wr), (o 1, arI E 122 (upd s w v))]) 1 rfl (by omega) (by omega) rfl rfl dX4_becomes_13 ?_
  refine G.iload_n hX 0 rfl dX4_becomes_14 ?_
  exact G.iret hX hQ dX4_becomes_15 (by rfl) (by rfl)
abbrev rmX4_finds : Room := { frames := 0, cells := 0, slots := 0, locals := 0 }
theorem cp_X4_finds : CP yX4_finds RX4 wsX4_finds 2 1 rmX4_finds := ⟨⟨_, _, _, rfl⟩, rfl, rfl, by decide +kernel⟩
theorem inc_X4_finds_4 : ∀ w ∈ u_ws RX4 TX4 19, w ∈ wsX4_finds := by decide +kernel
set_option maxHeartbeats 4000000 in
set_option maxRecDepth 100000 in
theorem c_X4_finds0 (l : Launch) (E : EV) (o : Nat → Nat) (ik : Int32) (be : Int32) (so : Int32) (tp : Int32) (fr : Int32) (tq : Int32) (vl : Int32) (wr : Int32) (stt : Nat → Int32)  : CI l yX4_finds wsX4_finds rmX4_finds E [.ref (o 0), .int ((-1000000001))] [(o 0, moO o ik be so tp fr tq vl wr), (o 5, arI E 7 stt)] [(o 0, moO o ik be so tp fr tq vl wr), (o 5, arI E 7 (upd stt 0 (stt 0 + 1)))] ((-1000000001)) := by
  refine CI.of (own := RX4) (cc := cX4_finds) (nL := 2) (rt := (some .int)) (by decide) rfl rfl (Nat.le_of_ble_eq_true rfl) (fun X hX hQ => ?_)
  show G E X 2 0 [(0, .ref (o 0)), (1, .int ((-1000000001)))] [] [(o 0, moO o ik be so tp fr tq vl wr), (o 5, arI E 7 stt)]
  refine G.aload_n hX 0 rfl dX4_finds_0 ?_
  refine G.get hX inc_X4_finds_4 0 rfl rfl 4 (by decide) (by decide +kernel) rfl dX4_finds_1 ?_
  refine G.ldc hX (v := -1000000001) (by decide +kernel) dX4_finds_4 ?_
  refine G.iload_n hX 1 rfl dX4_finds_6 ?_
  refine G.isub hX dX4_finds_7 ?_
  refine G.ie (y := 0) (by decide) ?_
  refine G.dup2 hX rfl rfl dX4_finds_8 ?_
  refine G.iald hX (j := 0) 1 rfl (by omega) (by omega) dX4_finds_9 ?_
  refine G.iconst hX (v := 1) (by decide) dX4_finds_10 ?_
  refine G.iadd hX dX4_finds_11 ?_
  refine G.iast hX (j := 0) (ws' := [(o 0, moO o ik be so tp fr tq vl wr), (o 5, arI E 7 (upd stt 0 ((stt 0) + 1)))]) 1 rfl (by omega) (by omega) rfl rfl dX4_finds_12 ?_
  refine G.iload_n hX 1 rfl dX4_finds_13 ?_
  exact G.iret hX hQ dX4_finds_14 (by rfl) (by first | rfl | (simp only [↓reduceIte, Bool.not_true, Bool.not_false, Bool.and_true, Bool.true_and, Bool.and_false, Bool.false_and, Bool.or_true, Bool.true_or, Bool.or_false, Bool.false_or, decide_true, decide_false, not_true_eq_false, not_false_eq_true, Bool.false_eq_true, Bool.true_eq_false]; done) | (simp only [↓reduceIte, Bool.not_true, Bool.not_false, Bool.and_true, Bool.true_and, Bool.and_false, Bool.false_and, Bool.or_true, Bool.true_or, Bool.or_false, Bool.false_or, decide_true, decide_false, not_true_eq_false, not_false_eq_true, Bool.false_eq_true, Bool.true_eq_false]; rfl) | (simp []; done))
set_option maxHeartbeats 4000000 in
set_option maxRecDepth 100000 in
theorem c_X4_finds1 (l : Launch) (E : EV) (o : Nat → Nat) (ik : Int32) (be : Int32) (so : Int32) (tp : Int32) (fr : Int32) (tq : Int32) (vl : Int32) (wr : Int32) (stt : Nat → Int32)  : CI l yX4_finds wsX4_finds rmX4_finds E [.ref (o 0), .int ((-1000000002))] [(o 0, moO o ik be so tp fr tq vl wr), (o 5, arI E 7 stt)] [(o 0, moO o ik be so tp fr tq vl wr), (o 5, arI E 7 (upd stt 1 (stt 1 + 1)))] ((-1000000002)) := by
  refine CI.of (own := RX4) (cc := cX4_finds) (nL := 2) (rt := (some .int)) (by decide) rfl rfl (Nat.le_of_ble_eq_true rfl) (fun X hX hQ => ?_)
  show G E X 2 0 [(0, .ref (o 0)), (1, .int ((-1000000002)))] [] [(o 0, moO o ik be so tp fr tq vl wr), (o 5, arI E 7 stt)]
  refine G.aload_n hX 0 rfl dX4_finds_0 ?_
  refine G.get hX inc_X4_finds_4 0 rfl rfl 4 (by decide) (by decide +kernel) rfl dX4_finds_1 ?_
  refine G.ldc hX (v := -1000000001) (by decide +kernel) dX4_finds_4 ?_
  refine G.iload_n hX 1 rfl dX4_finds_6 ?_
  refine G.isub hX dX4_finds_7 ?_
  refine G.ie (y := 1) (by decide) ?_
  refine G.dup2 hX rfl rfl dX4_finds_8 ?_
  refine G.iald hX (j := 1) 1 rfl (by omega) (by omega) dX4_finds_9 ?_
  refine G.iconst hX (v := 1) (by decide) dX4_finds_10 ?_
  refine G.iadd hX dX4_finds_11 ?_
  refine G.iast hX (j := 1) (ws' := [(o 0, moO o ik be so tp fr tq vl wr), (o 5, arI E 7 (upd stt 1 ((stt 1) + 1)))]) 1 rfl (by omega) (by omega) rfl rfl dX4_finds_12 ?_
  refine G.iload_n hX 1 rfl dX4_finds_13 ?_
  exact G.iret hX hQ dX4_finds_14 (by rfl) (by first | rfl | (simp only [↓reduceIte, Bool.not_true, Bool.not_false, Bool.and_true, Bool.true_and, Bool.and_false, Bool.false_and, Bool.or_true, Bool.true_or, Bool.or_false, Bool.false_or, decide_true, decide_false, not_true_eq_false, not_false_eq_true, Bool.false_eq_true, Bool.true_eq_false]; done) | (simp only [↓reduceIte, Bool.not_true, Bool.not_false, Bool.and_true, Bool.true_and, Bool.and_false, Bool.false_and, Bool.or_true, Bool.true_or, Bool.or_false, Bool.false_or, decide_true, decide_false, not_true_eq_false, not_false_eq_true, Bool.false_eq_true, Bool.true_eq_false]; rfl) | (simp []; done))
set_option maxHeartbeats 4000000 in
set_option maxRecDepth 100000 in
theorem c_X4_finds2 (l : Launch) (E : EV) (o : Nat → Nat) (ik : Int32) (be : Int32) (so : Int32) (tp : Int32) (fr : Int32) (tq : Int32) (vl : Int32) (wr : Int32) (stt : Nat → Int32)  : CI l yX4_finds wsX4_finds rmX4_finds E [.ref (o 0), .int ((-1000000003))] [(o 0, moO o ik be so tp fr tq vl wr), (o 5, arI E 7 stt)] [(o 0, moO o ik be so tp fr tq vl wr), (o 5, arI E 7 (upd stt 2 (stt 2 + 1)))] ((-1000000003)) := by
  refine CI.of (own := RX4) (cc := cX4_finds) (nL := 2) (rt := (some .int)) (by decide) rfl rfl (Nat.le_of_ble_eq_true rfl) (fun X hX hQ => ?_)
  show G E X 2 0 [(0, .ref (o 0)), (1, .int ((-1000000003)))] [] [(o 0, moO o ik be so tp fr tq vl wr), (o 5, arI E 7 stt)]
  refine G.aload_n hX 0 rfl dX4_finds_0 ?_
  refine G.get hX inc_X4_finds_4 0 rfl rfl 4 (by decide) (by decide +kernel) rfl dX4_finds_1 ?_
  refine G.ldc hX (v := -1000000001) (by decide +kernel) dX4_finds_4 ?_
  refine G.iload_n hX 1 rfl dX4_finds_6 ?_
  refine G.isub hX dX4_finds_7 ?_
  refine G.ie (y := 2) (by decide) ?_
  refine G.dup2 hX rfl rfl dX4_finds_8 ?_
  refine G.iald hX (j := 2) 1 rfl (by omega) (by omega) dX4_finds_9 ?_
  refine G.iconst hX (v := 1) (by decide) dX4_finds_10 ?_
  refine G.iadd hX dX4_finds_11 ?_
  refine G.iast hX (j := 2) (ws' := [(o 0, moO o ik be so tp fr tq vl wr), (o 5, arI E 7 (upd stt 2 ((stt 2) + 1)))]) 1 rfl (by omega) (by omega) rfl rfl dX4_finds_12 ?_
  refine G.iload_n hX 1 rfl dX4_finds_13 ?_
  exact G.iret hX hQ dX4_finds_14 (by rfl) (by first | rfl | (simp only [↓reduceIte, Bool.not_true, Bool.not_false, Bool.and_true, Bool.true_and, Bool.and_false, Bool.false_and, Bool.or_true, Bool.true_or, Bool.or_false, Bool.false_or, decide_true, decide_false, not_true_eq_false, not_false_eq_true, Bool.false_eq_true, Bool.true_eq_false]; done) | (simp only [↓reduceIte, Bool.not_true, Bool.not_false, Bool.and_true, Bool.true_and, Bool.and_false, Bool.false_and, Bool.or_true, Bool.true_or, Bool.or_false, Bool.false_or, decide_true, decide_false, not_true_eq_false, not_false_eq_true, Bool.false_eq_true, Bool.true_eq_false]; rfl) | (simp []; done))
set_option maxHeartbeats 4000000 in
set_option maxRecDepth 100000 in
theorem c_X4_finds3 (l : Launch) (E : EV) (o : Nat → Nat) (ik : Int32) (be : Int32) (so : Int32) (tp : Int32) (fr : Int32) (tq : Int32) (vl : Int32) (wr : Int32) (stt : Nat → Int32)  : CI l yX4_finds wsX4_finds rmX4_finds E [.ref (o 0), .int ((-1000000004))] [(o 0, moO o ik be so tp fr tq vl wr), (o 5, arI E 7 stt)] [(o 0, moO o ik be so tp fr tq vl wr), (o 5, arI E 7 (upd stt 3 (stt 3 + 1)))] ((-1000000004)) := by
  refine CI.of (own := RX4) (cc := cX4_finds) (nL := 2) (rt := (some .int)) (by decide) rfl rfl (Nat.le_of_ble_eq_true rfl) (fun X hX hQ => ?_)
  show G E X 2 0 [(0, .ref (o 0)), (1, .int ((-1000000004)))] [] [(o 0, moO o ik be so tp fr tq vl wr), (o 5, arI E 7 stt)]
  refine G.aload_n hX 0 rfl dX4_finds_0 ?_
  refine G.get hX inc_X4_finds_4 0 rfl rfl 4 (by decide) (by decide +kernel) rfl dX4_finds_1 ?_
  refine G.ldc hX (v := -1000000001) (by decide +kernel) dX4_finds_4 ?_
  refine G.iload_n hX 1 rfl dX4_finds_6 ?_
  refine G.isub hX dX4_finds_7 ?_
  refine G.ie (y := 3) (by decide) ?_
  refine G.dup2 hX rfl rfl dX4_finds_8 ?_
  refine G.iald hX (j := 3) 1 rfl (by omega) (by omega) dX4_finds_9 ?_
  refine G.iconst hX (v := 1) (by decide) dX4_finds_10 ?_
  refine G.iadd hX dX4_finds_11 ?_
  refine G.iast hX (j := 3) (ws' := [(o 0, moO o ik be so tp fr tq vl wr), (o 5, arI E 7 (upd stt 3 ((stt 3) + 1)))]) 1 rfl (by omega) (by omega) rfl rfl dX4_finds_12 ?_
  refine G.iload_n hX 1 rfl dX4_finds_13 ?_
  exact G.iret hX hQ dX4_finds_14 (by rfl) (by first | rfl | (simp only [↓reduceIte, Bool.not_true, Bool.not_false, Bool.and_true, Bool.true_and, Bool.and_false, Bool.false_and, Bool.or_true, Bool.true_or, Bool.or_false, Bool.false_or, decide_true, decide_false, not_true_eq_false, not_false_eq_true, Bool.false_eq_true, Bool.true_eq_false]; done) | (simp only [↓reduceIte, Bool.not_true, Bool.not_false, Bool.and_true, Bool.true_and, Bool.and_false, Bool.false_and, Bool.or_true, Bool.true_or, Bool.or_false, Bool.false_or, decide_true, decide_false, not_true_eq_false, not_false_eq_true, Bool.false_eq_true, Bool.true_eq_false]; rfl) | (simp []; done))
set_option maxHeartbeats 4000000 in
set_option maxRecDepth 100000 in
theorem c_X4_finds4 (l : Launch) (E : EV) (o : Nat → Nat) (ik : Int32) (be : Int32) (so : Int32) (tp : Int32) (fr : Int32) (tq : Int32) (vl : Int32) (wr : Int32) (stt : Nat → Int32)  : CI l yX4_finds wsX4_finds rmX4_finds E [.ref (o 0), .int ((-1000000005))] [(o 0, moO o ik be so tp fr tq vl wr), (o 5, arI E 7 stt)] [(o 0, moO o ik be so tp fr tq vl wr), (o 5, arI E 7 (upd stt 4 (stt 4 + 1)))] ((-1000000005)) := by
  refine CI.of (own := RX4) (cc := cX4_finds) (nL := 2) (rt := (some .int)) (by decide) rfl rfl (Nat.le_of_ble_eq_true rfl) (fun X hX hQ => ?_)
  show G E X 2 0 [(0, .ref (o 0)), (1, .int ((-1000000005)))] [] [(o 0, moO o ik be so tp fr tq vl wr), (o 5, arI E 7 stt)]
  refine G.aload_n hX 0 rfl dX4_finds_0 ?_
  refine G.get hX inc_X4_finds_4 0 rfl rfl 4 (by decide) (by decide +kernel) rfl dX4_finds_1 ?_
  refine G.ldc hX (v := -1000000001) (by decide +kernel) dX4_finds_4 ?_
  refine G.iload_n hX 1 rfl dX4_finds_6 ?_
  refine G.isub hX dX4_finds_7 ?_
  refine G.ie (y := 4) (by decide) ?_
  refine G.dup2 hX rfl rfl dX4_finds_8 ?_
  refine G.iald hX (j := 4) 1 rfl (by omega) (by omega) dX4_finds_9 ?_
  refine G.iconst hX (v := 1) (by decide) dX4_finds_10 ?_
  refine G.iadd hX dX4_finds_11 ?_
  refine G.iast hX (j := 4) (ws' := [(o 0, moO o ik be so tp fr tq vl wr), (o 5, arI E 7 (upd stt 4 ((stt 4) + 1)))]) 1 rfl (by omega) (by omega) rfl rfl dX4_finds_12 ?_
  refine G.iload_n hX 1 rfl dX4_finds_13 ?_
  exact G.iret hX hQ dX4_finds_14 (by rfl) (by first | rfl | (simp only [↓reduceIte, Bool.not_true, Bool.not_false, Bool.and_true, Bool.true_and, Bool.and_false, Bool.false_and, Bool.or_true, Bool.true_or, Bool.or_false, Bool.false_or, decide_true, decide_false, not_true_eq_false, not_false_eq_true, Bool.false_eq_true, Bool.true_eq_false]; done) | (simp only [↓reduceIte, Bool.not_true, Bool.not_false, Bool.and_true, Bool.true_and, Bool.and_false, Bool.false_and, Bool.or_true, Bool.true_or, Bool.or_false, Bool.false_or, decide_true, decide_false, not_true_eq_false, not_false_eq_true, Bool.false_eq_true, Bool.true_eq_false]; rfl) | (simp []; done))
set_option maxHeartbeats 4000000 in
set_option maxRecDepth 100000 in
theorem c_X4_finds5 (l : Launch) (E : EV) (o : Nat → Nat) (ik : Int32) (be : Int32) (so : Int32) (tp : Int32) (fr : Int32) (tq : Int32) (vl : Int32) (wr : Int32) (stt : Nat → Int32)  : CI l yX4_finds wsX4_finds rmX4_finds E [.ref (o 0), .int ((-1000000006))] [(o 0, moO o ik be so tp fr tq vl wr), (o 5, arI E 7 stt)] [(o 0, moO o ik be so tp fr tq vl wr), (o 5, arI E 7 (upd stt 5 (stt 5 + 1)))] ((-1000000006)) := by
  refine CI.of (own := RX4) (cc := cX4_finds) (nL := 2) (rt := (some .int)) (by decide) rfl rfl (Nat.le_of_ble_eq_true rfl) (fun X hX hQ => ?_)
  show G E X 2 0 [(0, .ref (o 0)), (1, .int ((-1000000006)))] [] [(o 0, moO o ik be so tp fr tq vl wr), (o 5, arI E 7 stt)]
  refine G.aload_n hX 0 rfl dX4_finds_0 ?_
  refine G.get hX inc_X4_finds_4 0 rfl rfl 4 (by decide) (by decide +kernel) rfl dX4_finds_1 ?_
  refine G.ldc hX (v := -1000000001) (by decide +kernel) dX4_finds_4 ?_
  refine G.iload_n hX 1 rfl dX4_finds_6 ?_
  refine G.isub hX dX4_finds_7 ?_
  refine G.ie (y := 5) (by decide) ?_
  refine G.dup2 hX rfl rfl dX4_finds_8 ?_
  refine G.iald hX (j := 5) 1 rfl (by omega) (by omega) dX4_finds_9 ?_
  refine G.iconst hX (v := 1) (by decide) dX4_finds_10 ?_
  refine G.iadd hX dX4_finds_11 ?_
  refine G.iast hX (j := 5) (ws' := [(o 0, moO o ik be so tp fr tq vl wr), (o 5, arI E 7 (upd stt 5 ((stt 5) + 1)))]) 1 rfl (by omega) (by omega) rfl rfl dX4_finds_12 ?_
  refine G.iload_n hX 1 rfl dX4_finds_13 ?_
  exact G.iret hX hQ dX4_finds_14 (by rfl) (by first | rfl | (simp only [↓reduceIte, Bool.not_true, Bool.not_false, Bool.and_true, Bool.true_and, Bool.and_false, Bool.false_and, Bool.or_true, Bool.true_or, Bool.or_false, Bool.false_or, decide_true, decide_false, not_true_eq_false, not_false_eq_true, Bool.false_eq_true, Bool.true_eq_false]; done) | (simp only [↓reduceIte, Bool.not_true, Bool.not_false, Bool.and_true, Bool.true_and, Bool.and_false, Bool.false_and, Bool.or_true, Bool.true_or, Bool.or_false, Bool.false_or, decide_true, decide_false, not_true_eq_false, not_false_eq_true, Bool.false_eq_true, Bool.true_eq_false]; rfl) | (simp []; done))
set_option maxHeartbeats 4000000 in
set_option maxRecDepth 100000 in
theorem c_X4_finds6 (l : Launch) (E : EV) (o : Nat → Nat) (ik : Int32) (be : Int32) (so : Int32) (tp : Int32) (fr : Int32) (tq : Int32) (vl : Int32) (wr : Int32) (stt : Nat → Int32)  : CI l yX4_finds wsX4_finds rmX4_finds E [.ref (o 0), .int ((-1000000007))] [(o 0, moO o ik be so tp fr tq vl wr), (o 5, arI E 7 stt)] [(o 0, moO o ik be so tp fr tq vl wr), (o 5, arI E 7 (upd stt 6 (stt 6 + 1)))] ((-1000000007)) := by
  refine CI.of (own := RX4) (cc := cX4_finds) (nL := 2) (rt := (some .int)) (by decide) rfl rfl (Nat.le_of_ble_eq_true rfl) (fun X hX hQ => ?_)
  show G E X 2 0 [(0, .ref (o 0)), (1, .int ((-1000000007)))] [] [(o 0, moO o ik be so tp fr tq vl wr), (o 5, arI E 7 stt)]
  refine G.aload_n hX 0 rfl dX4_finds_0 ?_
  refine G.get hX inc_X4_finds_4 0 rfl rfl 4 (by decide) (by decide +kernel) rfl dX4_finds_1 ?_
  refine G.ldc hX (v := -1000000001) (by decide +kernel) dX4_finds_4 ?_
  refine G.iload_n hX 1 rfl dX4_finds_6 ?_
  refine G.isub hX dX4_finds_7 ?_
  refine G.ie (y := 6) (by decide) ?_
  refine G.dup2 hX rfl rfl dX4_finds_8 ?_
  refine G.iald hX (j := 6) 1 rfl (by omega) (by omega) dX4_finds_9 ?_
  refine G.iconst hX (v := 1) (by decide) dX4_finds_10 ?_
  refine G.iadd hX dX4_finds_11 ?_
  refine G.iast hX (j := 6) (ws' := [(o 0, moO o ik be so tp fr tq vl wr), (o 5, arI E 7 (upd stt 6 ((stt 6) + 1)))]) 1 rfl (by omega) (by omega) rfl rfl dX4_finds_12 ?_
  refine G.iload_n hX 1 rfl dX4_finds_13 ?_
  exact G.iret hX hQ dX4_finds_14 (by rfl) (by first | rfl | (simp only [↓reduceIte, Bool.not_true, Bool.not_false, Bool.and_true, Bool.true_and, Bool.and_false, Bool.false_and, Bool.or_true, Bool.true_or, Bool.or_false, Bool.false_or, decide_true, decide_false, not_true_eq_false, not_false_eq_true, Bool.false_eq_true, Bool.true_eq_false]; done) | (simp only [↓reduceIte, Bool.not_true, Bool.not_false, Bool.and_true, Bool.true_and, Bool.and_false, Bool.false_and, Bool.or_true, Bool.true_or, Bool.or_false, Bool.false_or, decide_true, decide_false, not_true_eq_false, not_false_eq_true, Bool.false_eq_true, Bool.true_eq_false]; rfl) | (simp []; done))
abbrev rmX4_saves : Room := { frames := 0, cells := 0, slots := 0, locals := 0 }
theorem cp_X4_saves : CP yX4_saves RX4 wsX4_saves 2 0 rmX4_saves := ⟨⟨_, _, _, rfl⟩, rfl, rfl, by decide +kernel⟩
theorem inc_X4_saves_4 : ∀ w ∈ u_ws RX4 TX4 19, w ∈ wsX4_saves := by decide +kernel
set_option maxHeartbeats 4000000 in
set_option maxRecDepth 100000 in
theorem c_X4_saves (l : Launch) (E : EV) (o : Nat → Nat) (ik : Int32) (be : Int32) (so : Int32) (tp : Int32) (fr : Int32) (tq : Int32) (vl : Int32) (wr : Int32) (s : Nat → Int32) (ot : Nat → Int32)  : CV l yX4_saves wsX4_saves rmX4_saves E [.ref (o 0)] [(o 0, moO o ik be so tp fr tq vl wr), (o 1, arI E 122 s), (o 3, arI E 122 ot)] [(o 0, moO o ik be so tp fr tq vl wr), (o 1, arI E 122 s), (o 3, arI E 122 s)] := by
  refine CV.of (own := RX4) (cc := cX4_saves) (nL := 2) (rt := none) (by decide) rfl rfl (Nat.le_of_ble_eq_true rfl) (fun X hX hQ => ?_)
  show G E X 2 0 [(0, .ref (o 0))] [] [(o 0, moO o ik be so tp fr tq vl wr), (o 1, arI E 122 s), (o 3, arI E 122 ot)]
  refine G.iconst hX (v := 0) (by decide) dX4_saves_0 ?_
  refine G.istore_n hX (lv' := [(1, .int 0), (0, .ref (o 0))]) rfl (by decide) rfl dX4_saves_1 ?_
  have L2 : ∀ (n : Nat) (k : Nat), k ≤ 122 → 123 ≤ k + n → G E X 2 2 [(0, .ref (o 0)), (1, .int (nI k))] [] [(o 0, moO o ik be so tp fr tq vl wr), (o 1, arI E 122 s), (o 3, arI E 122 (cpN k s ot))] := by
    intro n
    induction n with
    | zero => intro k hl2_0 hl2_1; exact absurd hl2_1 (by omega)
    | succ n ih2 =>
      intro k hl2_0 hl2_1
      refine G.iload_n hX 1 rfl dX4_saves_2 ?_
      refine G.bipush hX (v := 122) (by decide) dX4_saves_3 ?_
      refine G.n_ge hX (a := k) (b := 122) (tgt := 26) (by omega) (by omega) (by decide) dX4_saves_5 (fun c5 => ?_) (fun c5 => ?_)
      · obtain rfl : k = 122 := by omega
        refine G.ext (g := s) 2 rfl (fun j hj => cpN_in hj) rfl ?_
        exact G.vret hX hQ dX4_saves_26 (by rfl)
      · refine G.aload_n hX 0 rfl dX4_saves_8 ?_
        refine G.get hX inc_X4_saves_4 0 rfl rfl 2 (by decide) (by decide +kernel) rfl dX4_saves_9 ?_
        refine G.iload_n hX 1 rfl dX4_saves_12 ?_
        refine G.aload_n hX 0 rfl dX4_saves_13 ?_
        refine G.get hX inc_X4_saves_4 0 rfl rfl 0 (by decide) (by decide +kernel) rfl dX4_saves_14 ?_
        refine G.iload_n hX 1 rfl dX4_saves_17 ?_
        refine G.iald hX (j := k) 1 rfl (by omega) (by omega) dX4_saves_18 ?_
        refine G.iast hX (j := k) (ws' := [(o 0, moO o ik be so tp fr tq vl wr), (o 1, arI E 122 s), (o 3, arI E 122 (upd (cpN k s ot) k (s k)))]) 2 rfl (by omega) (by omega) rfl rfl dX4_saves_19 ?_
        refine G.iinc hX (n := 1) (lv' := [(1, .int (nI (k + 1))), (0, .ref (o 0))]) 1 rfl (inc_nI k 1 rfl) (by decide) rfl dX4_saves_20 ?_
        refine G.goto hX (tgt := 2) (by decide) dX4_saves_23 ?_
        refine G.lvp (lv' := [(0, .ref (o 0)), (1, .int (nI (k + 1)))]) [1, 0] rfl ?_
        refine G.lve (lv' := [(0, .ref (o 0)), (1, .int (nI ((k + 1))))]) (by rfl) ?_
        refine G.we (ws' := [(o 0, moO o ik be so tp fr tq vl wr), (o 1, arI E 122 s), (o 3, arI E 122 (cpN (k + 1) s ot))]) (by rw [cpN_s]) ?_
        exact ih2 (k + 1) (by omega) (by omega)
  refine G.lvp (lv' := [(0, .ref (o 0)), (1, .int 0)]) [1, 0] rfl ?_
  refine G.lve (lv' := [(0, .ref (o 0)), (1, .int (nI 0))]) (by rfl) ?_
  refine G.we (ws' := [(o 0, moO o ik be so tp fr tq vl wr), (o 1, arI E 122 s), (o 3, arI E 122 (cpN 0 s ot))]) (by rw [cpN_0]) ?_
  exact L2 123 0 (by omega) (by omega)
abbrev rmX4_putsBack : Room := { frames := 0, cells := 0, slots := 0, locals := 0 }
theorem cp_X4_putsBack : CP yX4_putsBack RX4 wsX4_putsBack 2 0 rmX4_putsBack := ⟨⟨_, _, _, rfl⟩, rfl, rfl, by decide +kernel⟩
theorem inc_X4_putsBack_4 : ∀ w ∈ u_ws RX4 TX4 19, w ∈ wsX4_putsBack := by decide +kernel
set_option maxHeartbeats 4000000 in
set_option maxRecDepth 100000 in
theorem c_X4_putsBack (l : Launch) (E : EV) (o : Nat → Nat) (ik : Int32) (be : Int32) (so : Int32) (tp : Int32) (fr : Int32) (tq : Int32) (vl : Int32) (wr : Int32) (s : Nat → Int32) (ot : Nat → Int32)  : CV l yX4_putsBack wsX4_putsBack rmX4_putsBack E [.ref (o 0)] [(o 0, moO o ik be so tp fr tq vl wr), (o 1, arI E 122 s), (o 3, arI E 122 ot)] [(o 0, moO o ik be so tp fr tq vl wr), (o 1, arI E 122 ot), (o 3, arI E 122 ot)] := by
  refine CV.of (own := RX4) (cc := cX4_putsBack) (nL := 2) (rt := none) (by decide) rfl rfl (Nat.le_of_ble_eq_true rfl) (fun X hX hQ => ?_)
  show G E X 2 0 [(0, .ref (o 0))] [] [(o 0, moO o ik be so tp fr tq vl wr), (o 1, arI E 122 s), (o 3, arI E 122 ot)]
  refine G.iconst hX (v := 0) (by decide) dX4_putsBack_0 ?_
  refine G.istore_n hX (lv' := [(1, .int 0), (0, .ref (o 0))]) rfl (by decide) rfl dX4_putsBack_1 ?_
  have L2 : ∀ (n : Nat) (k : Nat), k ≤ 122 → 123 ≤ k + n → G E X 2 2 [(0, .ref (o 0)), (1, .int (nI k))] [] [(o 0, moO o ik be so tp fr tq vl wr), (o 1, arI E 122 (cpN k ot s)), (o 3, arI E 122 ot)] := by
    intro n
    induction n with
    | zero => intro k hl2_0 hl2_1; exact absurd hl2_1 (by omega)
    | succ n ih2 =>
      intro k hl2_0 hl2_1
      refine G.iload_n hX 1 rfl dX4_putsBack_2 ?_
      refine G.bipush hX (v := 122) (by decide) dX4_putsBack_3 ?_
      refine G.n_ge hX (a := k) (b := 122) (tgt := 26) (by omega) (by omega) (by decide) dX4_putsBack_5 (fun c5 => ?_) (fun c5 => ?_)
      · obtain rfl : k = 122 := by omega
        refine G.ext (g := ot) 1 rfl (fun j hj => cpN_in hj) rfl ?_
        exact G.vret hX hQ dX4_putsBack_26 (by rfl)
      · refine G.aload_n hX 0 rfl dX4_putsBack_8 ?_
        refine G.get hX inc_X4_putsBack_4 0 rfl rfl 0 (by decide) (by decide +kernel) rfl dX4_putsBack_9 ?_
        refine G.iload_n hX 1 rfl dX4_putsBack_12 ?_
        refine G.aload_n hX 0 rfl dX4_putsBack_13 ?_
        refine G.get hX inc_X4_putsBack_4 0 rfl rfl 2 (by decide) (by decide +kernel) rfl dX4_putsBack_14 ?_
        refine G.iload_n hX 1 rfl dX4_putsBack_17 ?_
        refine G.iald hX (j := k) 2 rfl (by omega) (by omega) dX4_putsBack_18 ?_
        refine G.iast hX (j := k) (ws' := [(o 0, moO o ik be so tp fr tq vl wr), (o 1, arI E 122 (upd (cpN k ot s) k (ot k))), (o 3, arI E 122 ot)]) 1 rfl (by omega) (by omega) rfl rfl dX4_putsBack_19 ?_
        refine G.iinc hX (n := 1) (lv' := [(1, .int (nI (k + 1))), (0, .ref (o 0))]) 1 rfl (inc_nI k 1 rfl) (by decide) rfl dX4_putsBack_20 ?_
        refine G.goto hX (tgt := 2) (by decide) dX4_putsBack_23 ?_
        refine G.lvp (lv' := [(0, .ref (o 0)), (1, .int (nI (k + 1)))]) [1, 0] rfl ?_
        refine G.lve (lv' := [(0, .ref (o 0)), (1, .int (nI ((k + 1))))]) (by rfl) ?_
        refine G.we (ws' := [(o 0, moO o ik be so tp fr tq vl wr), (o 1, arI E 122 (cpN (k + 1) ot s)), (o 3, arI E 122 ot)]) (by rw [cpN_s]) ?_
        exact ih2 (k + 1) (by omega) (by omega)
  refine G.lvp (lv' := [(0, .ref (o 0)), (1, .int 0)]) [1, 0] rfl ?_
  refine G.lve (lv' := [(0, .ref (o 0)), (1, .int (nI 0))]) (by rfl) ?_
  refine G.we (ws' := [(o 0, moO o ik be so tp fr tq vl wr), (o 1, arI E 122 (cpN 0 ot s)), (o 3, arI E 122 ot)]) (by rw [cpN_0]) ?_
  exact L2 123 0 (by omega) (by omega)
abbrev rmX4_laysAside : Room := { frames := 0, cells := 0, slots := 0, locals := 0 }
theorem cp_X4_laysAside : CP yX4_laysAside RX4 wsX4_laysAside 2 0 rmX4_laysAside := ⟨⟨_, _, _, rfl⟩, rfl, rfl, by decide +kernel⟩
theorem inc_X4_laysAside_4 : ∀ w ∈ u_ws RX4 TX4 19, w ∈ wsX4_laysAside := by decide +kernel
set_option maxHeartbeats 4000000 in
set_option maxRecDepth 100000 in
theorem c_X4_laysAside (l : Launch) (E : EV) (o : Nat → Nat) (ik : Int32) (be : Int32) (so : Int32) (tp : Int32) (fr : Int32) (tq : Int32) (vl : Int32) (wr : Int32) (s : Nat → Int32) (asd : Nat → Int32)  : CV l yX4_laysAside wsX4_laysAside rmX4_laysAside E [.ref (o 0)] [(o 0, moO o ik be so tp fr tq vl wr), (o 1, arI E 122 s), (o 4, arI E 122 asd)] [(o 0, moO o ik be so tp fr tq vl wr), (o 1, arI E 122 s), (o 4, arI E 122 s)] := by
  refine CV.of (own := RX4) (cc := cX4_laysAside) (nL := 2) (rt := none) (by decide) rfl rfl (Nat.le_of_ble_eq_true rfl) (fun X hX hQ => ?_)
  show G E X 2 0 [(0, .ref (o 0))] [] [(o 0, moO o ik be so tp fr tq vl wr), (o 1, arI E 122 s), (o 4, arI E 122 asd)]
  refine G.iconst hX (v := 0) (by decide) dX4_laysAside_0 ?_
  refine G.istore_n hX (lv' := [(1, .int 0), (0, .ref (o 0))]) rfl (by decide) rfl dX4_laysAside_1 ?_
  have L2 : ∀ (n : Nat) (k : Nat), k ≤ 122 → 123 ≤ k + n → G E X 2 2 [(0, .ref (o 0)), (1, .int (nI k))] [] [(o 0, moO o ik be so tp fr tq vl wr), (o 1, arI E 122 s), (o 4, arI E 122 (cpN k s asd))] := by
    intro n
    induction n with
    | zero => intro k hl2_0 hl2_1; exact absurd hl2_1 (by omega)
    | succ n ih2 =>
      intro k hl2_0 hl2_1
      refine G.iload_n hX 1 rfl dX4_laysAside_2 ?_
      refine G.bipush hX (v := 122) (by decide) dX4_laysAside_3 ?_
      refine G.n_ge hX (a := k) (b := 122) (tgt := 26) (by omega) (by omega) (by decide) dX4_laysAside_5 (fun c5 => ?_) (fun c5 => ?_)
      · obtain rfl : k = 122 := by omega
        refine G.ext (g := s) 2 rfl (fun j hj => cpN_in hj) rfl ?_
        exact G.vret hX hQ dX4_laysAside_26 (by rfl)
      · refine G.aload_n hX 0 rfl dX4_laysAside_8 ?_
        refine G.get hX inc_X4_laysAside_4 0 rfl rfl 3 (by decide) (by decide +kernel) rfl dX4_laysAside_9 ?_
        refine G.iload_n hX 1 rfl dX4_laysAside_12 ?_
        refine G.aload_n hX 0 rfl dX4_laysAside_13 ?_
        refine G.get hX inc_X4_laysAside_4 0 rfl rfl 0 (by decide) (by decide +kernel) rfl dX4_laysAside_14 ?_
        refine G.iload_n hX 1 rfl dX4_laysAside_17 ?_
        refine G.iald hX (j := k) 1 rfl (by omega) (by omega) dX4_laysAside_18 ?_
        refine G.iast hX (j := k) (ws' := [(o 0, moO o ik be so tp fr tq vl wr), (o 1, arI E 122 s), (o 4, arI E 122 (upd (cpN k s asd) k (s k)))]) 2 rfl (by omega) (by omega) rfl rfl dX4_laysAside_19 ?_
        refine G.iinc hX (n := 1) (lv' := [(1, .int (nI (k + 1))), (0, .ref (o 0))]) 1 rfl (inc_nI k 1 rfl) (by decide) rfl dX4_laysAside_20 ?_
        refine G.goto hX (tgt := 2) (by decide) dX4_laysAside_23 ?_
        refine G.lvp (lv' := [(0, .ref (o 0)), (1, .int (nI (k + 1)))]) [1, 0] rfl ?_
        refine G.lve (lv' := [(0, .ref (o 0)), (1, .int (nI ((k + 1))))]) (by rfl) ?_
        refine G.we (ws' := [(o 0, moO o ik be so tp fr tq vl wr), (o 1, arI E 122 s), (o 4, arI E 122 (cpN (k + 1) s asd))]) (by rw [cpN_s]) ?_
        exact ih2 (k + 1) (by omega) (by omega)
  refine G.lvp (lv' := [(0, .ref (o 0)), (1, .int 0)]) [1, 0] rfl ?_
  refine G.lve (lv' := [(0, .ref (o 0)), (1, .int (nI 0))]) (by rfl) ?_
  refine G.we (ws' := [(o 0, moO o ik be so tp fr tq vl wr), (o 1, arI E 122 s), (o 4, arI E 122 (cpN 0 s asd))]) (by rw [cpN_0]) ?_
  exact L2 123 0 (by omega) (by omega)
abbrev rmX4_takesBack : Room := { frames := 0, cells := 0, slots := 0, locals := 0 }
theorem cp_X4_takesBack : CP yX4_takesBack RX4 wsX4_takesBack 3 1 rmX4_takesBack := ⟨⟨_, _, _, rfl⟩, rfl, rfl, by decide +kernel⟩
theorem inc_X4_takesBack_4 : ∀ w ∈ u_ws RX4 TX4 19, w ∈ wsX4_takesBack := by decide +kernel
set_option maxHeartbeats 4000000 in
set_option maxRecDepth 100000 in
theorem c_X4_takesBack (l : Launch) (E : EV) (v : Int32) (o : Nat → Nat) (ik : Int32) (be : Int32) (so : Int32) (tp : Int32) (fr : Int32) (tq : Int32) (vl : Int32) (wr : Int32) (s : Nat → Int32) (asd : Nat → Int32)  : CI l yX4_takesBack wsX4_takesBack rmX4_takesBack E [.ref (o 0), .int v] [(o 0, moO o ik be so tp fr tq vl wr), (o 1, arI E 122 s), (o 4, arI E 122 asd)] [(o 0, moO o ik be so tp fr tq vl wr), (o 1, arI E 122 asd), (o 4, arI E 122 asd)] v := by
  refine CI.of (own := RX4) (cc := cX4_takesBack) (nL := 3) (rt := (some .int)) (by decide) rfl rfl (Nat.le_of_ble_eq_true rfl) (fun X hX hQ => ?_)
  show G E X 3 0 [(0, .ref (o 0)), (1, .int v)] [] [(o 0, moO o ik be so tp fr tq vl wr), (o 1, arI E 122 s), (o 4, arI E 122 asd)]
  refine G.iconst hX (v := 0) (by decide) dX4_takesBack_0 ?_
  refine G.istore_n hX (lv' := [(2, .int 0), (0, .ref (o 0)), (1, .int v)]) rfl (by decide) rfl dX4_takesBack_1 ?_
  have L2 : ∀ (n : Nat) (k : Nat), k ≤ 122 → 123 ≤ k + n → G E X 3 2 [(0, .ref (o 0)), (1, .int v), (2, .int (nI k))] [] [(o 0, moO o ik be so tp fr tq vl wr), (o 1, arI E 122 (cpN k asd s)), (o 4, arI E 122 asd)] := by
    intro n
    induction n with
    | zero => intro k hl2_0 hl2_1; exact absurd hl2_1 (by omega)
    | succ n ih2 =>
      intro k hl2_0 hl2_1
      refine G.iload_n hX 2 rfl dX4_takesBack_2 ?_
      refine G.bipush hX (v := 122) (by decide) dX4_takesBack_3 ?_
      refine G.n_ge hX (a := k) (b := 122) (tgt := 26) (by omega) (by omega) (by decide) dX4_takesBack_5 (fun c5 => ?_) (fun c5 => ?_)
      · obtain rfl : k = 122 := by omega
        refine G.ext (g := asd) 1 rfl (fun j hj => cpN_in hj) rfl ?_
        refine G.iload_n hX 1 rfl dX4_takesBack_26 ?_
        exact G.iret hX hQ dX4_takesBack_27 (by rfl) (by rfl)
      · refine G.aload_n hX 0 rfl dX4_takesBack_8 ?_
        refine G.get hX inc_X4_takesBack_4 0 rfl rfl 0 (by decide) (by decide +kernel) rfl dX4_takesBack_9 ?_
        refine G.iload_n hX 2 rfl dX4_takesBack_12 ?_
        refine G.aload_n hX 0 rfl dX4_takesBack_13 ?_
        refine G.get hX inc_X4_takesBack_4 0 rfl rfl 3 (by decide) (by decide +kernel) rfl dX4_takesBack_14 ?_
        refine G.iload_n hX 2 rfl dX4_takesBack_17 ?_
        refine G.iald hX (j := k) 2 rfl (by omega) (by omega) dX4_takesBack_18 ?_
        refine G.iast hX (j := k) (ws' := [(o 0, moO o ik be so tp fr tq vl wr), (o 1, arI E 122 (upd (cpN k asd s) k (asd k))), (o 4, arI E 122 asd)]) 1 rfl (by omega) (by omega) rfl rfl dX4_takesBack_19 ?_
        refine G.iinc hX (n := 1) (lv' := [(2, .int (nI (k + 1))), (0, .ref (o 0)), (1, .int v)]) 2 rfl (inc_nI k 1 rfl) (by decide) rfl dX4_takesBack_20 ?_
        refine G.goto hX (tgt := 2) (by decide) dX4_takesBack_23 ?_
        refine G.lvp (lv' := [(0, .ref (o 0)), (1, .int v), (2, .int (nI (k + 1)))]) [1, 2, 0] rfl ?_
        refine G.lve (lv' := [(0, .ref (o 0)), (1, .int v), (2, .int (nI ((k + 1))))]) (by rfl) ?_
        refine G.we (ws' := [(o 0, moO o ik be so tp fr tq vl wr), (o 1, arI E 122 (cpN (k + 1) asd s)), (o 4, arI E 122 asd)]) (by rw [cpN_s]) ?_
        exact ih2 (k + 1) (by omega) (by omega)
  refine G.lvp (lv' := [(0, .ref (o 0)), (1, .int v), (2, .int 0)]) [1, 2, 0] rfl ?_
  refine G.lve (lv' := [(0, .ref (o 0)), (1, .int v), (2, .int (nI 0))]) (by rfl) ?_
  refine G.we (ws' := [(o 0, moO o ik be so tp fr tq vl wr), (o 1, arI E 122 (cpN 0 asd s)), (o 4, arI E 122 asd)]) (by rw [cpN_0]) ?_
  exact L2 123 0 (by omega) (by omega)
abbrev rmX4_sets : Room := { frames := 1, cells := 0, slots := 0, locals := 21 }
theorem cp_X4_sets : CP yX4_sets RX4 wsX4_sets 5 3 rmX4_sets := ⟨⟨_, _, _, rfl⟩, rfl, rfl, by decide +kernel⟩
theorem inc_X4_sets_4 : ∀ w ∈ u_ws RX4 TX4 19, w ∈ wsX4_sets := by decide +kernel
set_option maxHeartbeats 4000000 in
set_option maxRecDepth 100000 in
theorem c_X4_sets (l : Launch) (E : EV) (t : Nat) (k : Int32) (ag : Int32) (o : Nat → Nat) (ik : Int32) (be : Int32) (so : Int32) (tp : Int32) (fr : Int32) (tq : Int32) (vl : Int32) (wr : Int32) (s : Nat → Int32) (h1 : t < 12) : CV l yX4_sets wsX4_sets rmX4_sets E [.ref (o 0), .int (nI t), .int k, .int ag] [(o 0, moO o ik be so tp fr tq vl wr), (o 1, arI E 122 s)] [(o 0, moO o ik be so tp fr tq vl wr), (o 1, arI E 122 (ms_sets s t k ag))] := by
  refine CV.of (own := RX4) (cc := cX4_sets) (nL := 5) (rt := none) (by decide) rfl rfl (Nat.le_of_ble_eq_true rfl) (fun X hX hQ => ?_)
  show G E X 5 0 [(0, .ref (o 0)), (1, .int (nI t)), (2, .int k), (3, .int ag)] [] [(o 0, moO o ik be so tp fr tq vl wr), (o 1, arI E 122 s)]
  refine G.aload_n hX 0 rfl dX4_sets_0 ?_
  refine G.get hX inc_X4_sets_4 0 rfl rfl 0 (by decide) (by decide +kernel) rfl dX4_sets_1 ?_
  refine G.iload_n hX 1 rfl dX4_sets_4 ?_
  refine G.iconst hX (v := 0) (by decide) dX4_sets_5 ?_
  refine G.s0i hX (As := [.int (nI t), .int 0]) (st := [.ref (o 1)]) (c_X4_spotOf _ E (t := t) (w := 0) ) gX4_sets_X4_spotOf cp_X4_spotOf (by decide) rfl rfl (Nat.le_of_ble_eq_true rfl) dX4_sets_6 ?_
  refine G.ie (y := nI (2 + 10 * t)) rfl ?_
  refine G.iload_n hX 2 rfl dX4_sets_9 ?_
  refine G.iast hX (j := 2 + 10 * t) (ws' := [(o 0, moO o ik be so tp fr tq vl wr), (o 1, arI E 122 (upd s (2 + 10 * t) k))]) 1 rfl (by omega) (by omega) rfl rfl dX4_sets_10 ?_
  refine G.aload_n hX 0 rfl dX4_sets_11 ?_
  refine G.get hX inc_X4_sets_4 0 rfl rfl 0 (by decide) (by decide +kernel) rfl dX4_sets_12 ?_
  refine G.iload_n hX 1 rfl dX4_sets_15 ?_
  refine G.iconst hX (v := 1) (by decide) dX4_sets_16 ?_
  refine G.s0i hX (As := [.int (nI t), .int 1]) (st := [.ref (o 1)]) (c_X4_spotOf _ E (t := t) (w := 1) ) gX4_sets_X4_spotOf cp_X4_spotOf (by decide) rfl rfl (Nat.le_of_ble_eq_true rfl) dX4_sets_17 ?_
  refine G.iload_n hX 3 rfl dX4_sets_20 ?_
  refine G.iast hX (j := 2 + 10 * t + 1) (ws' := [(o 0, moO o ik be so tp fr tq vl wr), (o 1, arI E 122 (upd (upd s (2 + 10 * t) k) (2 + 10 * t + 1) ag))]) 1 rfl (by omega) (by omega) rfl rfl dX4_sets_21 ?_
  refine G.iconst hX (v := 0) (by decide) dX4_sets_22 ?_
  refine G.istore hX (lv' := [(4, .int 0), (0, .ref (o 0)), (1, .int (nI t)), (2, .int k), (3, .int ag)]) (by decide) rfl dX4_sets_23 ?_
  have L25 : ∀ (n : Nat) (m : Nat), m ≤ 8 → 9 ≤ m + n → G E X 5 25 [(0, .ref (o 0)), (1, .int (nI t)), (4, .int (nI m))] [] [(o 0, moO o ik be so tp fr tq vl wr), (o 1, arI E 122 (it (ms_setS t) m (upd (upd s (2 + 10 * t) k) (2 + 10 * t + 1) ag)))] := by
    intro n
    induction n with
    | zero => intro m hl25_0 hl25_1; exact absurd hl25_1 (by omega)
    | succ n ih25 =>
      intro m hl25_0 hl25_1
      refine G.iload hX 2 rfl dX4_sets_25 ?_
      refine G.bipush hX (v := 8) (by decide) dX4_sets_27 ?_
      refine G.n_ge hX (a := m) (b := 8) (tgt := 52) (by omega) (by omega) (by decide) dX4_sets_29 (fun c29 => ?_) (fun c29 => ?_)
      · exact G.vret hX hQ dX4_sets_52 (by obtain rfl : m = 8 := (by omega); rfl)
      · refine G.aload_n hX 0 rfl dX4_sets_32 ?_
        refine G.get hX inc_X4_sets_4 0 rfl rfl 0 (by decide) (by decide +kernel) rfl dX4_sets_33 ?_
        refine G.iload_n hX 1 rfl dX4_sets_36 ?_
        refine G.iconst hX (v := 2) (by decide) dX4_sets_37 ?_
        refine G.iload hX 2 rfl dX4_sets_38 ?_
        refine G.iadd hX dX4_sets_40 ?_
        refine G.ie (nI_add 2 m) ?_
        refine G.s0i hX (As := [.int (nI t), .int (nI (2 + m))]) (st := [.ref (o 1)]) (c_X4_spotOf _ E (t := t) (w := 2 + m) ) gX4_sets_X4_spotOf cp_X4_spotOf (by decide) rfl rfl (Nat.le_of_ble_eq_true rfl) dX4_sets_41 ?_
        refine G.iconst hX (v := -1) (by decide) dX4_sets_44 ?_
        refine G.iast hX (j := 2 + 10 * t + (2 + m)) (ws' := [(o 0, moO o ik be so tp fr tq vl wr), (o 1, arI E 122 (upd (it (ms_setS t) m (upd (upd s (2 + 10 * t) k) (2 + 10 * t + 1) ag)) (2 + 10 * t + (2 + m)) ((-1))))]) 1 rfl (by omega) (by omega) rfl rfl dX4_sets_45 ?_
        refine G.iinc hX (n := 1) (lv' := [(4, .int (nI (m + 1))), (0, .ref (o 0)), (1, .int (nI t))]) 2 rfl (inc_nI m 1 rfl) (by decide) rfl dX4_sets_46 ?_
        refine G.goto hX (tgt := 25) (by decide) dX4_sets_49 ?_
        refine G.lvp (lv' := [(0, .ref (o 0)), (1, .int (nI t)), (4, .int (nI (m + 1)))]) [1, 2, 0] rfl ?_
        refine G.lve (lv' := [(0, .ref (o 0)), (1, .int (nI t)), (4, .int (nI ((m + 1))))]) (by rfl) ?_
        refine G.we (ws' := [(o 0, moO o ik be so tp fr tq vl wr), (o 1, arI E 122 (it (ms_setS t) (m + 1) (upd (upd s (2 + 10 * t) k) (2 + 10 * t + 1) ag)))]) (by rfl) ?_
        exact ih25 (m + 1) (by omega) (by omega)
  refine G.lvp (lv' := [(0, .ref (o 0)), (1, .int (nI t)), (4, .int 0)]) [1, 2, 0] rfl ?_
  refine G.lve (lv' := [(0, .ref (o 0)), (1, .int (nI t)), (4, .int (nI 0))]) (by rfl) ?_
  refine G.we (ws' := [(o 0, moO o ik be so tp fr tq vl wr), (o 1, arI E 122 (it (ms_setS t) 0 (upd (upd s (2 + 10 * t) k) (2 + 10 * t + 1) ag)))]) (by rfl) ?_
  exact L25 9 0 (by omega) (by omega)
abbrev rmX4_leansOf : Room := { frames := 2, cells := 0, slots := 0, locals := 43 }
theorem cp_X4_leansOf : CP yX4_leansOf RX4 wsX4_leansOf 3 1 rmX4_leansOf := ⟨⟨_, _, _, rfl⟩, rfl, rfl, by decide +kernel⟩
set_option maxHeartbeats 4000000 in
set_option maxRecDepth 100000 in
theorem c_X4_leansOf (l : Launch) (E : EV) (t : Nat) (o : Nat → Nat) (ik : Int32) (be : Int32) (so : Int32) (tp : Int32) (fr : Int32) (tq : Int32) (vl : Int32) (wr : Int32) (s : Nat → Int32) (h1 : t < 12) : CI l yX4_leansOf wsX4_leansOf rmX4_leansOf E [.ref (o 0), .int (nI t)] [(o 0, moO o ik be so tp fr tq vl wr), (o 1, arI E 122 s)] [(o 0, moO o ik be so tp fr tq vl wr), (o 1, arI E 122 s)] (ms_leans s t) := by
  refine CI.of (own := RX4) (cc := cX4_leansOf) (nL := 3) (rt := (some .int)) (by decide) rfl rfl (Nat.le_of_ble_eq_true rfl) (fun X hX hQ => ?_)
  show G E X 3 0 [(0, .ref (o 0)), (1, .int (nI t))] [] [(o 0, moO o ik be so tp fr tq vl wr), (o 1, arI E 122 s)]
  refine G.aload_n hX 0 rfl dX4_leansOf_0 ?_
  refine G.iload_n hX 1 rfl dX4_leansOf_1 ?_
  refine G.iconst hX (v := 1) (by decide) dX4_leansOf_2 ?_
  refine G.vi hX (As := [.int (nI t), .int 1]) (st := []) (wr := []) (wf := [(o 0, moO o ik be so tp fr tq vl wr), (o 1, arI E 122 s)]) (q0 := 0) (ci := 4) rfl rfl (c_X4_its _ E (t := t) (w := 1) (o := o) (ik := ik) (be := be) (so := so) (tp := tp) (fr := fr) (tq := tq) (vl := vl) (wr := wr) (s := s) (h1 := by omega)) gX4_leansOf_X4_its cp_X4_its (by decide) [0, 1] [] [0, 1] ⟨rfl, rfl, by decide, rfl⟩ rfl rfl (Nat.le_of_ble_eq_true rfl) dX4_leansOf_3 ?_
  have J24 : G E X 3 24 [(0, .ref (o 0)), (1, .int (nI t))] [.int (ms_young s t)] [(o 0, moO o ik be so tp fr tq vl wr), (o 1, arI E 122 s)] := by
    refine G.istore_n hX (lv' := [(2, .int (ms_young s t)), (0, .ref (o 0)), (1, .int (nI t))]) rfl (by decide) rfl dX4_leansOf_24 ?_
    refine G.aload_n hX 1 rfl dX4_leansOf_25 ?_
    refine G.iload_n hX 2 rfl dX4_leansOf_26 ?_
    refine G.iconst hX (v := 0) (by decide) dX4_leansOf_27 ?_
    refine G.vi hX (As := [.int (nI t), .int 0]) (st := []) (wr := []) (wf := [(o 0, moO o ik be so tp fr tq vl wr), (o 1, arI E 122 s)]) (q0 := 0) (ci := 4) rfl rfl (c_X4_its _ E (t := t) (w := 0) (o := o) (ik := ik) (be := be) (so := so) (tp := tp) (fr := fr) (tq := tq) (vl := vl) (wr := wr) (s := s) (h1 := by omega)) gX4_leansOf_X4_its cp_X4_its (by decide) [0, 1] [] [0, 1] ⟨rfl, rfl, by decide, rfl⟩ rfl rfl (Nat.le_of_ble_eq_true rfl) dX4_leansOf_28 ?_
    refine G.ie (y := s (2 + 10 * t)) rfl ?_
    refine G.ie (y := s (2 + 10 * t)) rfl ?_
    by_cases c31_1 : s (2 + 10 * t) = 1
    · refine G.ie (y := 1) c31_1 ?_
      refine G.tin hX (tgt := 64) dX4_leansOf_31 (by decide) (by decide) rfl (by decide) ?_
      refine G.bipush hX (v := 7) (by decide) dX4_leansOf_64 ?_
      exact G.iret hX hQ dX4_leansOf_66 (by first | rfl | (simp only [ms_leans, c31_1, ↓reduceIte, Bool.not_true, Bool.not_false, Bool.and_true, Bool.true_and, Bool.and_false, Bool.false_and, Bool.or_true, Bool.true_or, Bool.or_false, Bool.false_or, decide_true, decide_false, not_true_eq_false, not_false_eq_true, Bool.false_eq_true, Bool.true_eq_false]; done) | (simp only [ms_leans, c31_1, ↓reduceIte, Bool.not_true, Bool.not_false, Bool.and_true, Bool.true_and, Bool.and_false, Bool.false_and, Bool.or_true, Bool.true_or, Bool.or_false, Bool.false_or, decide_true, decide_false, not_true_eq_false, not_false_eq_true, Bool.false_eq_true, Bool.true_eq_false]; rfl) | (simp [ms_leans, c31_1]; done)) (by rfl)
    by_cases c31_2 : s (2 + 10 * t) = 2
    · refine G.ie (y := 2) c31_2 ?_
      refine G.tin hX (tgt := 67) dX4_leansOf_31 (by decide) (by decide) rfl (by decide) ?_
      refine G.iconst hX (v := 3) (by decide) dX4_leansOf_67 ?_
      refine G.iload_n hX 0 rfl dX4_leansOf_68 ?_
      refine G.iadd hX dX4_leansOf_69 ?_
      exact G.iret hX hQ dX4_leansOf_70 (by first | rfl | (simp only [ms_leans, c31_1, c31_2, ↓reduceIte, Bool.not_true, Bool.not_false, Bool.and_true, Bool.true_and, Bool.and_false, Bool.false_and, Bool.or_true, Bool.true_or, Bool.or_false, Bool.false_or, decide_true, decide_false, not_true_eq_false, not_false_eq_true, Bool.false_eq_true, Bool.true_eq_false]; done) | (simp only [ms_leans, c31_1, c31_2, ↓reduceIte, Bool.not_true, Bool.not_false, Bool.and_true, Bool.true_and, Bool.and_false, Bool.false_and, Bool.or_true, Bool.true_or, Bool.or_false, Bool.false_or, decide_true, decide_false, not_true_eq_false, not_false_eq_true, Bool.false_eq_true, Bool.true_eq_false]; rfl) | (simp [ms_leans, c31_1, c31_2]; done)) (by rfl)
    by_cases c31_3 : s (2 + 10 * t) = 3
    · refine G.ie (y := 3) c31_3 ?_
      refine G.tin hX (tgt := 71) dX4_leansOf_31 (by decide) (by decide) rfl (by decide) ?_
      refine G.sipush hX (v := 999) (by decide) dX4_leansOf_71 ?_
      exact G.iret hX hQ dX4_leansOf_74 (by first | rfl | (simp only [ms_leans, c31_1, c31_2, c31_3, ↓reduceIte, Bool.not_true, Bool.not_false, Bool.and_true, Bool.true_and, Bool.and_false, Bool.false_and, Bool.or_true, Bool.true_or, Bool.or_false, Bool.false_or, decide_true, decide_false, not_true_eq_false, not_false_eq_true, Bool.false_eq_true, Bool.true_eq_false]; done) | (simp only [ms_leans, c31_1, c31_2, c31_3, ↓reduceIte, Bool.not_true, Bool.not_false, Bool.and_true, Bool.true_and, Bool.and_false, Bool.false_and, Bool.or_true, Bool.true_or, Bool.or_false, Bool.false_or, decide_true, decide_false, not_true_eq_false, not_false_eq_true, Bool.false_eq_true, Bool.true_eq_false]; rfl) | (simp [ms_leans, c31_1, c31_2, c31_3]; done)) (by rfl)
    by_cases c31_4 : s (2 + 10 * t) = 4
    · refine G.ie (y := 4) c31_4 ?_
      refine G.tin hX (tgt := 75) dX4_leansOf_31 (by decide) (by decide) rfl (by decide) ?_
      refine G.bipush hX (v := 14) (by decide) dX4_leansOf_75 ?_
      exact G.iret hX hQ dX4_leansOf_77 (by first | rfl | (simp only [ms_leans, c31_1, c31_2, c31_3, c31_4, ↓reduceIte, Bool.not_true, Bool.not_false, Bool.and_true, Bool.true_and, Bool.and_false, Bool.false_and, Bool.or_true, Bool.true_or, Bool.or_false, Bool.false_or, decide_true, decide_false, not_true_eq_false, not_false_eq_true, Bool.false_eq_true, Bool.true_eq_false]; done) | (simp only [ms_leans, c31_1, c31_2, c31_3, c31_4, ↓reduceIte, Bool.not_true, Bool.not_false, Bool.and_true, Bool.true_and, Bool.and_false, Bool.false_and, Bool.or_true, Bool.true_or, Bool.or_false, Bool.false_or, decide_true, decide_false, not_true_eq_false, not_false_eq_true, Bool.false_eq_true, Bool.true_eq_false]; rfl) | (simp [ms_leans, c31_1, c31_2, c31_3, c31_4]; done)) (by rfl)
    by_cases c31_5 : s (2 + 10 * t) = 5
    · refine G.ie (y := 5) c31_5 ?_
      refine G.tin hX (tgt := 78) dX4_leansOf_31 (by decide) (by decide) rfl (by decide) ?_
      refine G.iconst hX (v := 1) (by decide) dX4_leansOf_78 ?_
      refine G.iload_n hX 0 rfl dX4_leansOf_79 ?_
      refine G.iadd hX dX4_leansOf_80 ?_
      exact G.iret hX hQ dX4_leansOf_81 (by first | rfl | (simp only [ms_leans, c31_1, c31_2, c31_3, c31_4, c31_5, ↓reduceIte, Bool.not_true, Bool.not_false, Bool.and_true, Bool.true_and, Bool.and_false, Bool.false_and, Bool.or_true, Bool.true_or, Bool.or_false, Bool.false_or, decide_true, decide_false, not_true_eq_false, not_false_eq_true, Bool.false_eq_true, Bool.true_eq_false]; done) | (simp only [ms_leans, c31_1, c31_2, c31_3, c31_4, c31_5, ↓reduceIte, Bool.not_true, Bool.not_false, Bool.and_true, Bool.true_and, Bool.and_false, Bool.false_and, Bool.or_true, Bool.true_or, Bool.or_false, Bool.false_or, decide_true, decide_false, not_true_eq_false, not_false_eq_true, Bool.false_eq_true, Bool.true_eq_false]; rfl) | (simp [ms_leans, c31_1, c31_2, c31_3, c31_4, c31_5]; done)) (by rfl)
    refine G.tout hX (tgt := 82) dX4_leansOf_31 (by have t1 := ne_toInt c31_1; have t2 := ne_toInt c31_2; have t3 := ne_toInt c31_3; have t4 := ne_toInt c31_4; have t5 := ne_toInt c31_5; simp at t1 t2 t3 t4 t5; omega) (by decide) ?_
    refine G.iconst hX (v := 3) (by decide) dX4_leansOf_82 ?_
    exact G.iret hX hQ dX4_leansOf_83 (by first | rfl | (simp only [ms_leans, c31_1, c31_2, c31_3, c31_4, c31_5, ↓reduceIte, Bool.not_true, Bool.not_false, Bool.and_true, Bool.true_and, Bool.and_false, Bool.false_and, Bool.or_true, Bool.true_or, Bool.or_false, Bool.false_or, decide_true, decide_false, not_true_eq_false, not_false_eq_true, Bool.false_eq_true, Bool.true_eq_false]; done) | (simp only [ms_leans, c31_1, c31_2, c31_3, c31_4, c31_5, ↓reduceIte, Bool.not_true, Bool.not_false, Bool.and_true, Bool.true_and, Bool.and_false, Bool.false_and, Bool.or_true, Bool.true_or, Bool.or_false, Bool.false_or, decide_true, decide_false, not_true_eq_false, not_false_eq_true, Bool.false_eq_true, Bool.true_eq_false]; rfl) | (simp [ms_leans, c31_1, c31_2, c31_3, c31_4, c31_5]; done)) (by rfl)
  refine G.bipush hX (v := 10) (by decide) dX4_leansOf_6 ?_
  refine G.icmp_ge hX (tgt := 23) (by decide) dX4_leansOf_8 (fun c8 => ?_) (fun c8 => ?_)
  · refine G.iconst hX (v := 0) (by decide) dX4_leansOf_23 ?_
    refine G.ie (y := ms_young s t) (by first | rfl | (simp only [ms_young, c8, ↓reduceIte, Bool.not_true, Bool.not_false, Bool.and_true, Bool.true_and, Bool.and_false, Bool.false_and, Bool.or_true, Bool.true_or, Bool.or_false, Bool.false_or, decide_true, decide_false, not_true_eq_false, not_false_eq_true, Bool.false_eq_true, Bool.true_eq_false]; done) | (simp only [ms_young, c8, ↓reduceIte, Bool.not_true, Bool.not_false, Bool.and_true, Bool.true_and, Bool.and_false, Bool.false_and, Bool.or_true, Bool.true_or, Bool.or_false, Bool.false_or, decide_true, decide_false, not_true_eq_false, not_false_eq_true, Bool.false_eq_true, Bool.true_eq_false]; rfl) | (simp [ms_young, c8]; done)) ?_
    exact J24
  · refine G.bipush hX (v := 10) (by decide) dX4_leansOf_11 ?_
    refine G.aload_n hX 0 rfl dX4_leansOf_13 ?_
    refine G.iload_n hX 1 rfl dX4_leansOf_14 ?_
    refine G.iconst hX (v := 1) (by decide) dX4_leansOf_15 ?_
    refine G.vi hX (As := [.int (nI t), .int 1]) (st := [.int 10]) (wr := []) (wf := [(o 0, moO o ik be so tp fr tq vl wr), (o 1, arI E 122 s)]) (q0 := 0) (ci := 4) rfl rfl (c_X4_its _ E (t := t) (w := 1) (o := o) (ik := ik) (be := be) (so := so) (tp := tp) (fr := fr) (tq := tq) (vl := vl) (wr := wr) (s := s) (h1 := by omega)) gX4_leansOf_X4_its cp_X4_its (by decide) [0, 1] [] [0, 1] ⟨rfl, rfl, by decide, rfl⟩ rfl rfl (Nat.le_of_ble_eq_true rfl) dX4_leansOf_16 ?_
    refine G.isub hX dX4_leansOf_19 ?_
    refine G.goto hX (tgt := 24) (by decide) dX4_leansOf_20 ?_
    refine G.ie (y := ms_young s t) (by first | rfl | (simp only [ms_young, c8, ↓reduceIte, Bool.not_true, Bool.not_false, Bool.and_true, Bool.true_and, Bool.and_false, Bool.false_and, Bool.or_true, Bool.true_or, Bool.or_false, Bool.false_or, decide_true, decide_false, not_true_eq_false, not_false_eq_true, Bool.false_eq_true, Bool.true_eq_false]; done) | (simp only [ms_young, c8, ↓reduceIte, Bool.not_true, Bool.not_false, Bool.and_true, Bool.true_and, Bool.and_false, Bool.false_and, Bool.or_true, Bool.true_or, Bool.or_false, Bool.false_or, decide_true, decide_false, not_true_eq_false, not_false_eq_true, Bool.false_eq_true, Bool.true_eq_false]; rfl) | (simp [ms_young, c8]; done)) ?_
    exact J24
abbrev rmX4_nodsOf : Room := { frames := 2, cells := 0, slots := 0, locals := 43 }
theorem cp_X4_nodsOf : CP yX4_nodsOf RX4 wsX4_nodsOf 2 1 rmX4_nodsOf := ⟨⟨_, _, _, rfl⟩, rfl, rfl, by decide +kernel⟩
set_option maxHeartbeats 4000000 in
set_option maxRecDepth 100000 in
theorem c_X4_nodsOf (l : Launch) (E : EV) (t : Nat) (o : Nat → Nat) (ik : Int32) (be : Int32) (so : Int32) (tp : Int32) (fr : Int32) (tq : Int32) (vl : Int32) (wr : Int32) (s : Nat → Int32) (h1 : t < 12) : CI l yX4_nodsOf wsX4_nodsOf rmX4_nodsOf E [.ref (o 0), .int (nI t)] [(o 0, moO o ik be so tp fr tq vl wr), (o 1, arI E 122 s)] [(o 0, moO o ik be so tp fr tq vl wr), (o 1, arI E 122 s)] (ms_nods s t) := by
  refine CI.of (own := RX4) (cc := cX4_nodsOf) (nL := 2) (rt := (some .int)) (by decide) rfl rfl (Nat.le_of_ble_eq_true rfl) (fun X hX hQ => ?_)
  show G E X 2 0 [(0, .ref (o 0)), (1, .int (nI t))] [] [(o 0, moO o ik be so tp fr tq vl wr), (o 1, arI E 122 s)]
  refine G.aload_n hX 0 rfl dX4_nodsOf_0 ?_
  refine G.iload_n hX 1 rfl dX4_nodsOf_1 ?_
  refine G.iconst hX (v := 0) (by decide) dX4_nodsOf_2 ?_
  refine G.vi hX (As := [.int (nI t), .int 0]) (st := []) (wr := []) (wf := [(o 0, moO o ik be so tp fr tq vl wr), (o 1, arI E 122 s)]) (q0 := 0) (ci := 4) rfl rfl (c_X4_its _ E (t := t) (w := 0) (o := o) (ik := ik) (be := be) (so := so) (tp := tp) (fr := fr) (tq := tq) (vl := vl) (wr := wr) (s := s) (h1 := by omega)) gX4_nodsOf_X4_its cp_X4_its (by decide) [0, 1] [] [0, 1] ⟨rfl, rfl, by decide, rfl⟩ rfl rfl (Nat.le_of_ble_eq_true rfl) dX4_nodsOf_3 ?_
  refine G.ie (y := s (2 + 10 * t)) rfl ?_
  refine G.ie (y := s (2 + 10 * t)) rfl ?_
  by_cases c6_1 : s (2 + 10 * t) = 1
  · refine G.ie (y := 1) c6_1 ?_
    refine G.tin hX (tgt := 40) dX4_nodsOf_6 (by decide) (by decide) rfl (by decide) ?_
    refine G.iconst hX (v := 2) (by decide) dX4_nodsOf_40 ?_
    exact G.iret hX hQ dX4_nodsOf_41 (by first | rfl | (simp only [ms_nods, c6_1, ↓reduceIte, Bool.not_true, Bool.not_false, Bool.and_true, Bool.true_and, Bool.and_false, Bool.false_and, Bool.or_true, Bool.true_or, Bool.or_false, Bool.false_or, decide_true, decide_false, not_true_eq_false, not_false_eq_true, Bool.false_eq_true, Bool.true_eq_false]; done) | (simp only [ms_nods, c6_1, ↓reduceIte, Bool.not_true, Bool.not_false, Bool.and_true, Bool.true_and, Bool.and_false, Bool.false_and, Bool.or_true, Bool.true_or, Bool.or_false, Bool.false_or, decide_true, decide_false, not_true_eq_false, not_false_eq_true, Bool.false_eq_true, Bool.true_eq_false]; rfl) | (simp [ms_nods, c6_1]; done)) (by rfl)
  by_cases c6_2 : s (2 + 10 * t) = 2
  · refine G.ie (y := 2) c6_2 ?_
    refine G.tin hX (tgt := 42) dX4_nodsOf_6 (by decide) (by decide) rfl (by decide) ?_
    refine G.aload_n hX 0 rfl dX4_nodsOf_42 ?_
    refine G.iload_n hX 1 rfl dX4_nodsOf_43 ?_
    refine G.iconst hX (v := 1) (by decide) dX4_nodsOf_44 ?_
    refine G.vi hX (As := [.int (nI t), .int 1]) (st := []) (wr := []) (wf := [(o 0, moO o ik be so tp fr tq vl wr), (o 1, arI E 122 s)]) (q0 := 0) (ci := 4) rfl rfl (c_X4_its _ E (t := t) (w := 1) (o := o) (ik := ik) (be := be) (so := so) (tp := tp) (fr := fr) (tq := tq) (vl := vl) (wr := wr) (s := s) (h1 := by omega)) gX4_nodsOf_X4_its cp_X4_its (by decide) [0, 1] [] [0, 1] ⟨rfl, rfl, by decide, rfl⟩ rfl rfl (Nat.le_of_ble_eq_true rfl) dX4_nodsOf_45 ?_
    refine G.bipush hX (v := 20) (by decide) dX4_nodsOf_48 ?_
    refine G.icmp_ge hX (tgt := 57) (by decide) dX4_nodsOf_50 (fun c50 => ?_) (fun c50 => ?_)
    · refine G.iconst hX (v := 1) (by decide) dX4_nodsOf_57 ?_
      exact G.iret hX hQ dX4_nodsOf_58 (by first | rfl | (simp only [ms_nods, c6_1, c6_2, c50, ↓reduceIte, Bool.not_true, Bool.not_false, Bool.and_true, Bool.true_and, Bool.and_false, Bool.false_and, Bool.or_true, Bool.true_or, Bool.or_false, Bool.false_or, decide_true, decide_false, not_true_eq_false, not_false_eq_true, Bool.false_eq_true, Bool.true_eq_false]; done) | (simp only [ms_nods, c6_1, c6_2, c50, ↓reduceIte, Bool.not_true, Bool.not_false, Bool.and_true, Bool.true_and, Bool.and_false, Bool.false_and, Bool.or_true, Bool.true_or, Bool.or_false, Bool.false_or, decide_true, decide_false, not_true_eq_false, not_false_eq_true, Bool.false_eq_true, Bool.true_eq_false]; rfl) | (simp [ms_nods, c6_1, c6_2, c50]; done)) (by rfl)
    · refine G.iconst hX (v := 2) (by decide) dX4_nodsOf_53 ?_
      refine G.goto hX (tgt := 58) (by decide) dX4_nodsOf_54 ?_
      exact G.iret hX hQ dX4_nodsOf_58 (by first | rfl | (simp only [ms_nods, c6_1, c6_2, c50, ↓reduceIte, Bool.not_true, Bool.not_false, Bool.and_true, Bool.true_and, Bool.and_false, Bool.false_and, Bool.or_true, Bool.true_or, Bool.or_false, Bool.false_or, decide_true, decide_false, not_true_eq_false, not_false_eq_true, Bool.false_eq_true, Bool.true_eq_false]; done) | (simp only [ms_nods, c6_1, c6_2, c50, ↓reduceIte, Bool.not_true, Bool.not_false, Bool.and_true, Bool.true_and, Bool.and_false, Bool.false_and, Bool.or_true, Bool.true_or, Bool.or_false, Bool.false_or, decide_true, decide_false, not_true_eq_false, not_false_eq_true, Bool.false_eq_true, Bool.true_eq_false]; rfl) | (simp [ms_nods, c6_1, c6_2, c50]; done)) (by rfl)
  by_cases c6_3 : s (2 + 10 * t) = 3
  · refine G.ie (y := 3) c6_3 ?_
    refine G.tin hX (tgt := 59) dX4_nodsOf_6 (by decide) (by decide) rfl (by decide) ?_
    refine G.sipush hX (v := 999) (by decide) dX4_nodsOf_59 ?_
    exact G.iret hX hQ dX4_nodsOf_62 (by first | rfl | (simp only [ms_nods, c6_1, c6_2, c6_3, ↓reduceIte, Bool.not_true, Bool.not_false, Bool.and_true, Bool.true_and, Bool.and_false, Bool.false_and, Bool.or_true, Bool.true_or, Bool.or_false, Bool.false_or, decide_true, decide_false, not_true_eq_false, not_false_eq_true, Bool.false_eq_true, Bool.true_eq_false]; done) | (simp only [ms_nods, c6_1, c6_2, c6_3, ↓reduceIte, Bool.not_true, Bool.not_false, Bool.and_true, Bool.true_and, Bool.and_false, Bool.false_and, Bool.or_true, Bool.true_or, Bool.or_false, Bool.false_or, decide_true, decide_false, not_true_eq_false, not_false_eq_true, Bool.false_eq_true, Bool.true_eq_false]; rfl) | (simp [ms_nods, c6_1, c6_2, c6_3]; done)) (by rfl)
  by_cases c6_4 : s (2 + 10 * t) = 4
  · refine G.ie (y := 4) c6_4 ?_
    refine G.tin hX (tgt := 40) dX4_nodsOf_6 (by decide) (by decide) rfl (by decide) ?_
    refine G.iconst hX (v := 2) (by decide) dX4_nodsOf_40 ?_
    exact G.iret hX hQ dX4_nodsOf_41 (by first | rfl | (simp only [ms_nods, c6_1, c6_2, c6_3, c6_4, ↓reduceIte, Bool.not_true, Bool.not_false, Bool.and_true, Bool.true_and, Bool.and_false, Bool.false_and, Bool.or_true, Bool.true_or, Bool.or_false, Bool.false_or, decide_true, decide_false, not_true_eq_false, not_false_eq_true, Bool.false_eq_true, Bool.true_eq_false]; done) | (simp only [ms_nods, c6_1, c6_2, c6_3, c6_4, ↓reduceIte, Bool.not_true, Bool.not_false, Bool.and_true, Bool.true_and, Bool.and_false, Bool.false_and, Bool.or_true, Bool.true_or, Bool.or_false, Bool.false_or, decide_true, decide_false, not_true_eq_false, not_false_eq_true, Bool.false_eq_true, Bool.true_eq_false]; rfl) | (simp [ms_nods, c6_1, c6_2, c6_3, c6_4]; done)) (by rfl)
  by_cases c6_5 : s (2 + 10 * t) = 5
  · refine G.ie (y := 5) c6_5 ?_
    refine G.tin hX (tgt := 42) dX4_nodsOf_6 (by decide) (by decide) rfl (by decide) ?_
    refine G.aload_n hX 0 rfl dX4_nodsOf_42 ?_
    refine G.iload_n hX 1 rfl dX4_nodsOf_43 ?_
    refine G.iconst hX (v := 1) (by decide) dX4_nodsOf_44 ?_
    refine G.vi hX (As := [.int (nI t), .int 1]) (st := []) (wr := []) (wf := [(o 0, moO o ik be so tp fr tq vl wr), (o 1, arI E 122 s)]) (q0 := 0) (ci := 4) rfl rfl (c_X4_its _ E (t := t) (w := 1) (o := o) (ik := ik) (be := be) (so := so) (tp := tp) (fr := fr) (tq := tq) (vl := vl) (wr := wr) (s := s) (h1 := by omega)) gX4_nodsOf_X4_its cp_X4_its (by decide) [0, 1] [] [0, 1] ⟨rfl, rfl, by decide, rfl⟩ rfl rfl (Nat.le_of_ble_eq_true rfl) dX4_nodsOf_45 ?_
    refine G.bipush hX (v := 20) (by decide) dX4_nodsOf_48 ?_
    refine G.icmp_ge hX (tgt := 57) (by decide) dX4_nodsOf_50 (fun c50 => ?_) (fun c50 => ?_)
    · refine G.iconst hX (v := 1) (by decide) dX4_nodsOf_57 ?_
      exact G.iret hX hQ dX4_nodsOf_58 (by first | rfl | (simp only [ms_nods, c6_1, c6_2, c6_3, c6_4, c6_5, c50, ↓reduceIte, Bool.not_true, Bool.not_false, Bool.and_true, Bool.true_and, Bool.and_false, Bool.false_and, Bool.or_true, Bool.true_or, Bool.or_false, Bool.false_or, decide_true, decide_false, not_true_eq_false, not_false_eq_true, Bool.false_eq_true, Bool.true_eq_false]; done) | (simp only [ms_nods, c6_1, c6_2, c6_3, c6_4, c6_5, c50, ↓reduceIte, Bool.not_true, Bool.not_false, Bool.and_true, Bool.true_and, Bool.and_false, Bool.false_and, Bool.or_true, Bool.true_or, Bool.or_false, Bool.false_or, decide_true, decide_false, not_true_eq_false, not_false_eq_true, Bool.false_eq_true, Bool.true_eq_false]; rfl) | (simp [ms_nods, c6_1, c6_2, c6_3, c6_4, c6_5, c50]; done)) (by rfl)
    · refine G.iconst hX (v := 2) (by decide) dX4_nodsOf_53 ?_
      refine G.goto hX (tgt := 58) (by decide) dX4_nodsOf_54 ?_
      exact G.iret hX hQ dX4_nodsOf_58 (by first | rfl | (simp only [ms_nods, c6_1, c6_2, c6_3, c6_4, c6_5, c50, ↓reduceIte, Bool.not_true, Bool.not_false, Bool.and_true, Bool.true_and, Bool.and_false, Bool.false_and, Bool.or_true, Bool.true_or, Bool.or_false, Bool.false_or, decide_true, decide_false, not_true_eq_false, not_false_eq_true, Bool.false_eq_true, Bool.true_eq_false]; done) | (simp only [ms_nods, c6_1, c6_2, c6_3, c6_4, c6_5, c50, ↓reduceIte, Bool.not_true, Bool.not_false, Bool.and_true, Bool.true_and, Bool.and_false, Bool.false_and, Bool.or_true, Bool.true_or, Bool.or_false, Bool.false_or, decide_true, decide_false, not_true_eq_false, not_false_eq_true, Bool.false_eq_true, Bool.true_eq_false]; rfl) | (simp [ms_nods, c6_1, c6_2, c6_3, c6_4, c6_5, c50]; done)) (by rfl)
  refine G.tout hX (tgt := 63) dX4_nodsOf_6 (by have t1 := ne_toInt c6_1; have t2 := ne_toInt c6_2; have t3 := ne_toInt c6_3; have t4 := ne_toInt c6_4; have t5 := ne_toInt c6_5; simp at t1 t2 t3 t4 t5; omega) (by decide) ?_
  refine G.iconst hX (v := 1) (by decide) dX4_nodsOf_63 ?_
  exact G.iret hX hQ dX4_nodsOf_64 (by first | rfl | (simp only [ms_nods, c6_1, c6_2, c6_3, c6_4, c6_5, ↓reduceIte, Bool.not_true, Bool.not_false, Bool.and_true, Bool.true_and, Bool.and_false, Bool.false_and, Bool.or_true, Bool.true_or, Bool.or_false, Bool.false_or, decide_true, decide_false, not_true_eq_false, not_false_eq_true, Bool.false_eq_true, Bool.true_eq_false]; done) | (simp only [ms_nods, c6_1, c6_2, c6_3, c6_4, c6_5, ↓reduceIte, Bool.not_true, Bool.not_false, Bool.and_true, Bool.true_and, Bool.and_false, Bool.false_and, Bool.or_true, Bool.true_or, Bool.or_false, Bool.false_or, decide_true, decide_false, not_true_eq_false, not_false_eq_true, Bool.false_eq_true, Bool.true_eq_false]; rfl) | (simp [ms_nods, c6_1, c6_2, c6_3, c6_4, c6_5]; done)) (by rfl)
abbrev rmX4_isHearing : Room := { frames := 2, cells := 0, slots := 0, locals := 43 }
theorem cp_X4_isHearing : CP yX4_isHearing RX4 wsX4_isHearing 3 2 rmX4_isHearing := ⟨⟨_, _, _, rfl⟩, rfl, rfl, by decide +kernel⟩
theorem inc_X4_isHearing_4 : ∀ w ∈ u_ws RX4 TX4 19, w ∈ wsX4_isHearing := by decide +kernel
set_option maxHeartbeats 4000000 in
set_option maxRecDepth 100000 in
theorem c_X4_isHearing (l : Launch) (E : EV) (t : Nat) (b : Bool) (o : Nat → Nat) (ik : Int32) (be : Int32) (so : Int32) (tp : Int32) (fr : Int32) (tq : Int32) (vl : Int32) (wr : Int32) (s : Nat → Int32) (h1 : t < 12) : CI l yX4_isHearing wsX4_isHearing rmX4_isHearing E [.ref (o 0), .int (nI t), .int (bI b)] [(o 0, moO o ik be so tp fr tq vl wr), (o 1, arI E 122 s)] [(o 0, moO o ik be so tp fr tq vl wr), (o 1, arI E 122 s)] (bI (ms_hear s t b)) := by
  refine CI.of (own := RX4) (cc := cX4_isHearing) (nL := 3) (rt := (some .boolean)) (by decide) rfl rfl (Nat.le_of_ble_eq_true rfl) (fun X hX hQ => ?_)
  show G E X 3 0 [(0, .ref (o 0)), (1, .int (nI t)), (2, .int (bI b))] [] [(o 0, moO o ik be so tp fr tq vl wr), (o 1, arI E 122 s)]
  refine G.aload_n hX 0 rfl dX4_isHearing_0 ?_
  refine G.iload_n hX 1 rfl dX4_isHearing_1 ?_
  refine G.iconst hX (v := 0) (by decide) dX4_isHearing_2 ?_
  refine G.vi hX (As := [.int (nI t), .int 0]) (st := []) (wr := []) (wf := [(o 0, moO o ik be so tp fr tq vl wr), (o 1, arI E 122 s)]) (q0 := 0) (ci := 4) rfl rfl (c_X4_its _ E (t := t) (w := 0) (o := o) (ik := ik) (be := be) (so := so) (tp := tp) (fr := fr) (tq := tq) (vl := vl) (wr := wr) (s := s) (h1 := by omega)) gX4_isHearing_X4_its cp_X4_its (by decide) [0, 1] [] [0, 1] ⟨rfl, rfl, by decide, rfl⟩ rfl rfl (Nat.le_of_ble_eq_true rfl) dX4_isHearing_3 ?_
  refine G.ie (y := s (2 + 10 * t)) rfl ?_
  refine G.ie (y := s (2 + 10 * t)) rfl ?_
  by_cases c6_1 : s (2 + 10 * t) = 1
  · refine G.ie (y := 1) c6_1 ?_
    refine G.tin hX (tgt := 40) dX4_isHearing_6 (by decide) (by decide) rfl (by decide) ?_
    refine G.aload_n hX 0 rfl dX4_isHearing_40 ?_
    refine G.get hX inc_X4_isHearing_4 0 rfl rfl 0 (by decide) (by decide +kernel) rfl dX4_isHearing_41 ?_
    refine G.iconst hX (v := 0) (by decide) dX4_isHearing_44 ?_
    refine G.iald hX (j := 0) 1 rfl (by omega) (by omega) dX4_isHearing_45 ?_
    refine G.iconst hX (v := 3) (by decide) dX4_isHearing_46 ?_
    refine G.irem hX (by decide) dX4_isHearing_47 ?_
    refine G.if_eq hX (tgt := 55) (by decide) dX4_isHearing_48 (fun c48 => ?_) (fun c48 => ?_)
    · refine G.iconst hX (v := 0) (by decide) dX4_isHearing_55 ?_
      exact G.zret hX hQ rfl dX4_isHearing_56 (bI_0.mpr (by first | rfl | (simp only [ms_hear, c6_1, c48, ↓reduceIte, Bool.not_true, Bool.not_false, Bool.and_true, Bool.true_and, Bool.and_false, Bool.false_and, Bool.or_true, Bool.true_or, Bool.or_false, Bool.false_or, decide_true, decide_false, not_true_eq_false, not_false_eq_true, Bool.false_eq_true, Bool.true_eq_false]; done) | (simp only [ms_hear, c6_1, c48, ↓reduceIte, Bool.not_true, Bool.not_false, Bool.and_true, Bool.true_and, Bool.and_false, Bool.false_and, Bool.or_true, Bool.true_or, Bool.or_false, Bool.false_or, decide_true, decide_false, not_true_eq_false, not_false_eq_true, Bool.false_eq_true, Bool.true_eq_false]; rfl) | (simp [ms_hear, c6_1, c48]; done))).symm (by rfl)
    · refine G.iconst hX (v := 1) (by decide) dX4_isHearing_51 ?_
      refine G.goto hX (tgt := 56) (by decide) dX4_isHearing_52 ?_
      exact G.zret hX hQ rfl dX4_isHearing_56 (bI_1.mpr (by first | rfl | (simp only [ms_hear, c6_1, c48, ↓reduceIte, Bool.not_true, Bool.not_false, Bool.and_true, Bool.true_and, Bool.and_false, Bool.false_and, Bool.or_true, Bool.true_or, Bool.or_false, Bool.false_or, decide_true, decide_false, not_true_eq_false, not_false_eq_true, Bool.false_eq_true, Bool.true_eq_false]; done) | (simp only [ms_hear, c6_1, c48, ↓reduceIte, Bool.not_true, Bool.not_false, Bool.and_true, Bool.true_and, Bool.and_false, Bool.false_and, Bool.or_true, Bool.true_or, Bool.or_false, Bool.false_or, decide_true, decide_false, not_true_eq_false, not_false_eq_true, Bool.false_eq_true, Bool.true_eq_false]; rfl) | (simp [ms_hear, c6_1, c48]; done))).symm (by rfl)
  by_cases c6_2 : s (2 + 10 * t) = 2
  · refine G.ie (y := 2) c6_2 ?_
    refine G.tin hX (tgt := 57) dX4_isHearing_6 (by decide) (by decide) rfl (by decide) ?_
    refine G.aload_n hX 0 rfl dX4_isHearing_57 ?_
    refine G.iload_n hX 1 rfl dX4_isHearing_58 ?_
    refine G.iconst hX (v := 1) (by decide) dX4_isHearing_59 ?_
    refine G.vi hX (As := [.int (nI t), .int 1]) (st := []) (wr := []) (wf := [(o 0, moO o ik be so tp fr tq vl wr), (o 1, arI E 122 s)]) (q0 := 0) (ci := 4) rfl rfl (c_X4_its _ E (t := t) (w := 1) (o := o) (ik := ik) (be := be) (so := so) (tp := tp) (fr := fr) (tq := tq) (vl := vl) (wr := wr) (s := s) (h1 := by omega)) gX4_isHearing_X4_its cp_X4_its (by decide) [0, 1] [] [0, 1] ⟨rfl, rfl, by decide, rfl⟩ rfl rfl (Nat.le_of_ble_eq_true rfl) dX4_isHearing_60 ?_
    refine G.iconst hX (v := 5) (by decide) dX4_isHearing_63 ?_
    refine G.icmp_lt hX (tgt := 71) (by decide) dX4_isHearing_64 (fun c64 => ?_) (fun c64 => ?_)
    · refine G.iconst hX (v := 0) (by decide) dX4_isHearing_71 ?_
      exact G.zret hX hQ rfl dX4_isHearing_72 (bI_0.mpr (by first | rfl | (simp only [ms_hear, c6_1, c6_2, c64, ↓reduceIte, Bool.not_true, Bool.not_false, Bool.and_true, Bool.true_and, Bool.and_false, Bool.false_and, Bool.or_true, Bool.true_or, Bool.or_false, Bool.false_or, decide_true, decide_false, not_true_eq_false, not_false_eq_true, Bool.false_eq_true, Bool.true_eq_false]; done) | (simp only [ms_hear, c6_1, c6_2, c64, ↓reduceIte, Bool.not_true, Bool.not_false, Bool.and_true, Bool.true_and, Bool.and_false, Bool.false_and, Bool.or_true, Bool.true_or, Bool.or_false, Bool.false_or, decide_true, decide_false, not_true_eq_false, not_false_eq_true, Bool.false_eq_true, Bool.true_eq_false]; rfl) | (simp [ms_hear, c6_1, c6_2, c64]; done))).symm (by rfl)
    · refine G.iconst hX (v := 1) (by decide) dX4_isHearing_67 ?_
      refine G.goto hX (tgt := 72) (by decide) dX4_isHearing_68 ?_
      exact G.zret hX hQ rfl dX4_isHearing_72 (bI_1.mpr (by first | rfl | (simp only [ms_hear, c6_1, c6_2, c64, ↓reduceIte, Bool.not_true, Bool.not_false, Bool.and_true, Bool.true_and, Bool.and_false, Bool.false_and, Bool.or_true, Bool.true_or, Bool.or_false, Bool.false_or, decide_true, decide_false, not_true_eq_false, not_false_eq_true, Bool.false_eq_true, Bool.true_eq_false]; done) | (simp only [ms_hear, c6_1, c6_2, c64, ↓reduceIte, Bool.not_true, Bool.not_false, Bool.and_true, Bool.true_and, Bool.and_false, Bool.false_and, Bool.or_true, Bool.true_or, Bool.or_false, Bool.false_or, decide_true, decide_false, not_true_eq_false, not_false_eq_true, Bool.false_eq_true, Bool.true_eq_false]; rfl) | (simp [ms_hear, c6_1, c6_2, c64]; done))).symm (by rfl)
  by_cases c6_3 : s (2 + 10 * t) = 3
  · refine G.ie (y := 3) c6_3 ?_
    refine G.tin hX (tgt := 73) dX4_isHearing_6 (by decide) (by decide) rfl (by decide) ?_
    refine G.iconst hX (v := 0) (by decide) dX4_isHearing_73 ?_
    exact G.zret hX hQ rfl dX4_isHearing_74 (bI_0.mpr (by first | rfl | (simp only [ms_hear, c6_1, c6_2, c6_3, ↓reduceIte, Bool.not_true, Bool.not_false, Bool.and_true, Bool.true_and, Bool.and_false, Bool.false_and, Bool.or_true, Bool.true_or, Bool.or_false, Bool.false_or, decide_true, decide_false, not_true_eq_false, not_false_eq_true, Bool.false_eq_true, Bool.true_eq_false]; done) | (simp only [ms_hear, c6_1, c6_2, c6_3, ↓reduceIte, Bool.not_true, Bool.not_false, Bool.and_true, Bool.true_and, Bool.and_false, Bool.false_and, Bool.or_true, Bool.true_or, Bool.or_false, Bool.false_or, decide_true, decide_false, not_true_eq_false, not_false_eq_true, Bool.false_eq_true, Bool.true_eq_false]; rfl) | (simp [ms_hear, c6_1, c6_2, c6_3]; done))).symm (by rfl)
  by_cases c6_4 : s (2 + 10 * t) = 4
  · refine G.ie (y := 4) c6_4 ?_
    refine G.tin hX (tgt := 40) dX4_isHearing_6 (by decide) (by decide) rfl (by decide) ?_
    refine G.aload_n hX 0 rfl dX4_isHearing_40 ?_
    refine G.get hX inc_X4_isHearing_4 0 rfl rfl 0 (by decide) (by decide +kernel) rfl dX4_isHearing_41 ?_
    refine G.iconst hX (v := 0) (by decide) dX4_isHearing_44 ?_
    refine G.iald hX (j := 0) 1 rfl (by omega) (by omega) dX4_isHearing_45 ?_
    refine G.iconst hX (v := 3) (by decide) dX4_isHearing_46 ?_
    refine G.irem hX (by decide) dX4_isHearing_47 ?_
    refine G.if_eq hX (tgt := 55) (by decide) dX4_isHearing_48 (fun c48 => ?_) (fun c48 => ?_)
    · refine G.iconst hX (v := 0) (by decide) dX4_isHearing_55 ?_
      exact G.zret hX hQ rfl dX4_isHearing_56 (bI_0.mpr (by first | rfl | (simp only [ms_hear, c6_1, c6_2, c6_3, c6_4, c48, ↓reduceIte, Bool.not_true, Bool.not_false, Bool.and_true, Bool.true_and, Bool.and_false, Bool.false_and, Bool.or_true, Bool.true_or, Bool.or_false, Bool.false_or, decide_true, decide_false, not_true_eq_false, not_false_eq_true, Bool.false_eq_true, Bool.true_eq_false]; done) | (simp only [ms_hear, c6_1, c6_2, c6_3, c6_4, c48, ↓reduceIte, Bool.not_true, Bool.not_false, Bool.and_true, Bool.true_and, Bool.and_false, Bool.false_and, Bool.or_true, Bool.true_or, Bool.or_false, Bool.false_or, decide_true, decide_false, not_true_eq_false, not_false_eq_true, Bool.false_eq_true, Bool.true_eq_false]; rfl) | (simp [ms_hear, c6_1, c6_2, c6_3, c6_4, c48]; done))).symm (by rfl)
    · refine G.iconst hX (v := 1) (by decide) dX4_isHearing_51 ?_
      refine G.goto hX (tgt := 56) (by decide) dX4_isHearing_52 ?_
      exact G.zret hX hQ rfl dX4_isHearing_56 (bI_1.mpr (by first | rfl | (simp only [ms_hear, c6_1, c6_2, c6_3, c6_4, c48, ↓reduceIte, Bool.not_true, Bool.not_false, Bool.and_true, Bool.true_and, Bool.and_false, Bool.false_and, Bool.or_true, Bool.true_or, Bool.or_false, Bool.false_or, decide_true, decide_false, not_true_eq_false, not_false_eq_true, Bool.false_eq_true, Bool.true_eq_false]; done) | (simp only [ms_hear, c6_1, c6_2, c6_3, c6_4, c48, ↓reduceIte, Bool.not_true, Bool.not_false, Bool.and_true, Bool.true_and, Bool.and_false, Bool.false_and, Bool.or_true, Bool.true_or, Bool.or_false, Bool.false_or, decide_true, decide_false, not_true_eq_false, not_false_eq_true, Bool.false_eq_true, Bool.true_eq_false]; rfl) | (simp [ms_hear, c6_1, c6_2, c6_3, c6_4, c48]; done))).symm (by rfl)
  by_cases c6_5 : s (2 + 10 * t) = 5
  · refine G.ie (y := 5) c6_5 ?_
    refine G.tin hX (tgt := 75) dX4_isHearing_6 (by decide) (by decide) rfl (by decide) ?_
    refine G.iload_n hX 2 rfl dX4_isHearing_75 ?_
    refine G.b_ne hX (tgt := 89) (by decide) dX4_isHearing_76 (fun c76 => ?_) (fun c76 => ?_)
    · refine G.iconst hX (v := 1) (by decide) dX4_isHearing_89 ?_
      refine G.goto hX (tgt := 94) (by decide) dX4_isHearing_90 ?_
      exact G.zret hX hQ rfl dX4_isHearing_94 (bI_1.mpr (by first | rfl | (simp only [ms_hear, c6_1, c6_2, c6_3, c6_4, c6_5, c76, ↓reduceIte, Bool.not_true, Bool.not_false, Bool.and_true, Bool.true_and, Bool.and_false, Bool.false_and, Bool.or_true, Bool.true_or, Bool.or_false, Bool.false_or, decide_true, decide_false, not_true_eq_false, not_false_eq_true, Bool.false_eq_true, Bool.true_eq_false]; done) | (simp only [ms_hear, c6_1, c6_2, c6_3, c6_4, c6_5, c76, ↓reduceIte, Bool.not_true, Bool.not_false, Bool.and_true, Bool.true_and, Bool.and_false, Bool.false_and, Bool.or_true, Bool.true_or, Bool.or_false, Bool.false_or, decide_true, decide_false, not_true_eq_false, not_false_eq_true, Bool.false_eq_true, Bool.true_eq_false]; rfl) | (simp [ms_hear, c6_1, c6_2, c6_3, c6_4, c6_5, c76]; done))).symm (by rfl)
    · refine G.aload_n hX 0 rfl dX4_isHearing_79 ?_
      refine G.iload_n hX 1 rfl dX4_isHearing_80 ?_
      refine G.iconst hX (v := 1) (by decide) dX4_isHearing_81 ?_
      refine G.vi hX (As := [.int (nI t), .int 1]) (st := []) (wr := []) (wf := [(o 0, moO o ik be so tp fr tq vl wr), (o 1, arI E 122 s)]) (q0 := 0) (ci := 4) rfl rfl (c_X4_its _ E (t := t) (w := 1) (o := o) (ik := ik) (be := be) (so := so) (tp := tp) (fr := fr) (tq := tq) (vl := vl) (wr := wr) (s := s) (h1 := by omega)) gX4_isHearing_X4_its cp_X4_its (by decide) [0, 1] [] [0, 1] ⟨rfl, rfl, by decide, rfl⟩ rfl rfl (Nat.le_of_ble_eq_true rfl) dX4_isHearing_82 ?_
      refine G.iconst hX (v := 5) (by decide) dX4_isHearing_85 ?_
      refine G.icmp_lt hX (tgt := 93) (by decide) dX4_isHearing_86 (fun c86 => ?_) (fun c86 => ?_)
      · refine G.iconst hX (v := 0) (by decide) dX4_isHearing_93 ?_
        exact G.zret hX hQ rfl dX4_isHearing_94 (bI_0.mpr (by first | rfl | (simp only [ms_hear, c6_1, c6_2, c6_3, c6_4, c6_5, c76, c86, ↓reduceIte, Bool.not_true, Bool.not_false, Bool.and_true, Bool.true_and, Bool.and_false, Bool.false_and, Bool.or_true, Bool.true_or, Bool.or_false, Bool.false_or, decide_true, decide_false, not_true_eq_false, not_false_eq_true, Bool.false_eq_true, Bool.true_eq_false]; done) | (simp only [ms_hear, c6_1, c6_2, c6_3, c6_4, c6_5, c76, c86, ↓reduceIte, Bool.not_true, Bool.not_false, Bool.and_true, Bool.true_and, Bool.and_false, Bool.false_and, Bool.or_true, Bool.true_or, Bool.or_false, Bool.false_or, decide_true, decide_false, not_true_eq_false, not_false_eq_true, Bool.false_eq_true, Bool.true_eq_false]; rfl) | (simp [ms_hear, c6_1, c6_2, c6_3, c6_4, c6_5, c76, c86]; done))).symm (by rfl)
      · refine G.iconst hX (v := 1) (by decide) dX4_isHearing_89 ?_
        refine G.goto hX (tgt := 94) (by decide) dX4_isHearing_90 ?_
        exact G.zret hX hQ rfl dX4_isHearing_94 (bI_1.mpr (by first | rfl | (simp only [ms_hear, c6_1, c6_2, c6_3, c6_4, c6_5, c76, c86, ↓reduceIte, Bool.not_true, Bool.not_false, Bool.and_true, Bool.true_and, Bool.and_false, Bool.false_and, Bool.or_true, Bool.true_or, Bool.or_false, Bool.false_or, decide_true, decide_false, not_true_eq_false, not_false_eq_true, Bool.false_eq_true, Bool.true_eq_false]; done) | (simp only [ms_hear, c6_1, c6_2, c6_3, c6_4, c6_5, c76, c86, ↓reduceIte, Bool.not_true, Bool.not_false, Bool.and_true, Bool.true_and, Bool.and_false, Bool.false_and, Bool.or_true, Bool.true_or, Bool.or_false, Bool.false_or, decide_true, decide_false, not_true_eq_false, not_false_eq_true, Bool.false_eq_true, Bool.true_eq_false]; rfl) | (simp [ms_hear, c6_1, c6_2, c6_3, c6_4, c6_5, c76, c86]; done))).symm (by rfl)
  refine G.tout hX (tgt := 95) dX4_isHearing_6 (by have t1 := ne_toInt c6_1; have t2 := ne_toInt c6_2; have t3 := ne_toInt c6_3; have t4 := ne_toInt c6_4; have t5 := ne_toInt c6_5; simp at t1 t2 t3 t4 t5; omega) (by decide) ?_
  refine G.iconst hX (v := 1) (by decide) dX4_isHearing_95 ?_
  exact G.zret hX hQ rfl dX4_isHearing_96 (bI_1.mpr (by first | rfl | (simp only [ms_hear, c6_1, c6_2, c6_3, c6_4, c6_5, ↓reduceIte, Bool.not_true, Bool.not_false, Bool.and_true, Bool.true_and, Bool.and_false, Bool.false_and, Bool.or_true, Bool.true_or, Bool.or_false, Bool.false_or, decide_true, decide_false, not_true_eq_false, not_false_eq_true, Bool.false_eq_true, Bool.true_eq_false]; done) | (simp only [ms_hear, c6_1, c6_2, c6_3, c6_4, c6_5, ↓reduceIte, Bool.not_true, Bool.not_false, Bool.and_true, Bool.true_and, Bool.and_false, Bool.false_and, Bool.or_true, Bool.true_or, Bool.or_false, Bool.false_or, decide_true, decide_false, not_true_eq_false, not_false_eq_true, Bool.false_eq_true, Bool.true_eq_false]; rfl) | (simp [ms_hear, c6_1, c6_2, c6_3, c6_4, c6_5]; done))).symm (by rfl)
abbrev rmX4_knownBy : Room := { frames := 4, cells := 0, slots := 0, locals := 87 }
theorem cp_X4_knownBy : CP yX4_knownBy RX4 wsX4_knownBy 4 1 rmX4_knownBy := ⟨⟨_, _, _, rfl⟩, rfl, rfl, by decide +kernel⟩
set_option maxHeartbeats 4000000 in
set_option maxRecDepth 100000 in
theorem c_X4_knownBy (l : Launch) (E : EV) (t : Nat) (o : Nat → Nat) (ik : Int32) (be : Int32) (so : Int32) (tp : Int32) (fr : Int32) (tq : Int32) (vl : Int32) (wr : Int32) (s : Nat → Int32) (h1 : t < 12) : CI l yX4_knownBy wsX4_knownBy rmX4_knownBy E [.ref (o 0), .int (nI t)] [(o 0, moO o ik be so tp fr tq vl wr), (o 1, arI E 122 s)] [(o 0, moO o ik be so tp fr tq vl wr), (o 1, arI E 122 s)] (nI (ms_kb s t)) := by
  refine CI.of (own := RX4) (cc := cX4_knownBy) (nL := 4) (rt := (some .int)) (by decide) rfl rfl (Nat.le_of_ble_eq_true rfl) (fun X hX hQ => ?_)
  show G E X 4 0 [(0, .ref (o 0)), (1, .int (nI t))] [] [(o 0, moO o ik be so tp fr tq vl wr), (o 1, arI E 122 s)]
  refine G.iconst hX (v := 0) (by decide) dX4_knownBy_0 ?_
  refine G.istore_n hX (lv' := [(2, .int 0), (0, .ref (o 0)), (1, .int (nI t))]) rfl (by decide) rfl dX4_knownBy_1 ?_
  refine G.iconst hX (v := 0) (by decide) dX4_knownBy_2 ?_
  refine G.istore_n hX (lv' := [(3, .int 0), (2, .int 0), (0, .ref (o 0)), (1, .int (nI t))]) rfl (by decide) rfl dX4_knownBy_3 ?_
  have L4 : ∀ (n : Nat) (m : Nat), m ≤ 8 → 9 ≤ m + n → G E X 4 4 [(0, .ref (o 0)), (1, .int (nI t)), (2, .int (nI (it (ms_kbS s t) m 0))), (3, .int (nI m))] [] [(o 0, moO o ik be so tp fr tq vl wr), (o 1, arI E 122 s)] := by
    intro n
    induction n with
    | zero => intro m hl4_0 hl4_1; exact absurd hl4_1 (by omega)
    | succ n ih4 =>
      intro m hl4_0 hl4_1
      refine G.iload_n hX 3 rfl dX4_knownBy_4 ?_
      refine G.bipush hX (v := 8) (by decide) dX4_knownBy_5 ?_
      refine G.n_ge hX (a := m) (b := 8) (tgt := 35) (by omega) (by omega) (by decide) dX4_knownBy_7 (fun c7 => ?_) (fun c7 => ?_)
      · refine G.iload_n hX 2 rfl dX4_knownBy_35 ?_
        exact G.iret hX hQ dX4_knownBy_36 (by obtain rfl : m = 8 := (by omega); rfl) (by rfl)
      · refine G.iload_n hX 2 rfl dX4_knownBy_10 ?_
        refine G.aload_n hX 0 rfl dX4_knownBy_11 ?_
        refine G.iload_n hX 1 rfl dX4_knownBy_12 ?_
        refine G.iload_n hX 3 rfl dX4_knownBy_13 ?_
        refine G.vi hX (As := [.int (nI t), .int (nI m)]) (st := [.int (nI (it (ms_kbS s t) m 0))]) (wr := []) (wf := [(o 0, moO o ik be so tp fr tq vl wr), (o 1, arI E 122 s)]) (q0 := 0) (ci := 4) rfl rfl (c_X4_isKnown _ E (t := t) (m := m) (o := o) (ik := ik) (be := be) (so := so) (tp := tp) (fr := fr) (tq := tq) (vl := vl) (wr := wr) (s := s) (h1 := by omega) (h2 := by omega)) gX4_knownBy_X4_isKnown cp_X4_isKnown (by decide) [0, 1] [] [0, 1] ⟨rfl, rfl, by decide, rfl⟩ rfl rfl (Nat.le_of_ble_eq_true rfl) dX4_knownBy_14 ?_
        have J27 : G E X 4 27 [(0, .ref (o 0)), (1, .int (nI t)), (2, .int (nI (it (ms_kbS s t) m 0))), (3, .int (nI m))] [.int (nI (if ms_k s t m then 2 ^ m else 0)), .int (nI (it (ms_kbS s t) m 0))] [(o 0, moO o ik be so tp fr tq vl wr), (o 1, arI E 122 s)] := by
          refine G.ior hX dX4_knownBy_27 ?_
          refine G.ie (y := nI (it (ms_kbS s t) (m + 1) 0)) (by exact nI_or _ _) ?_
          refine G.istore_n hX (lv' := [(2, .int (nI (it (ms_kbS s t) (m + 1) 0))), (0, .ref (o 0)), (1, .int (nI t)), (3, .int (nI m))]) rfl (by decide) rfl dX4_knownBy_28 ?_
          refine G.iinc hX (n := 1) (lv' := [(3, .int (nI (m + 1))), (2, .int (nI (it (ms_kbS s t) (m + 1) 0))), (0, .ref (o 0)), (1, .int (nI t))]) 3 rfl (inc_nI m 1 rfl) (by decide) rfl dX4_knownBy_29 ?_
          refine G.goto hX (tgt := 4) (by decide) dX4_knownBy_32 ?_
          refine G.lvp (lv' := [(0, .ref (o 0)), (1, .int (nI t)), (2, .int (nI (it (ms_kbS s t) (m + 1) 0))), (3, .int (nI (m + 1)))]) [2, 3, 1, 0] rfl ?_
          refine G.lve (lv' := [(0, .ref (o 0)), (1, .int (nI t)), (2, .int (nI (it (ms_kbS s t) (m + 1) 0))), (3, .int (nI ((m + 1))))]) (by rfl) ?_
          exact ih4 (m + 1) (by omega) (by omega)
        refine G.b_eq hX (tgt := 26) (by decide) dX4_knownBy_17 (fun c17 => ?_) (fun c17 => ?_)
        · refine G.iconst hX (v := 0) (by decide) dX4_knownBy_26 ?_
          refine G.ve (y := .int (nI (if ms_k s t m then 2 ^ m else 0))) (by first | rfl | (simp only [c7, c17, ↓reduceIte, Bool.not_true, Bool.not_false, Bool.and_true, Bool.true_and, Bool.and_false, Bool.false_and, Bool.or_true, Bool.true_or, Bool.or_false, Bool.false_or, decide_true, decide_false, not_true_eq_false, not_false_eq_true, Bool.false_eq_true, Bool.true_eq_false]; done) | (simp only [c7, c17, ↓reduceIte, Bool.not_true, Bool.not_false, Bool.and_true, Bool.true_and, Bool.and_false, Bool.false_and, Bool.or_true, Bool.true_or, Bool.or_false, Bool.false_or, decide_true, decide_false, not_true_eq_false, not_false_eq_true, Bool.false_eq_true, Bool.true_eq_false]; rfl) | (simp [c7, c17]; done)) ?_
          exact J27
        · refine G.iconst hX (v := 1) (by decide) dX4_knownBy_20 ?_
          refine G.iload_n hX 3 rfl dX4_knownBy_21 ?_
          refine G.ishl hX dX4_knownBy_22 ?_
          refine G.ie (y := nI (2 ^ m)) (by exact shl1 m (by omega)) ?_
          refine G.goto hX (tgt := 27) (by decide) dX4_knownBy_23 ?_
          refine G.ve (y := .int (nI (if ms_k s t m then 2 ^ m else 0))) (by first | rfl | (simp only [c7, c17, ↓reduceIte, Bool.not_true, Bool.not_false, Bool.and_true, Bool.true_and, Bool.and_false, Bool.false_and, Bool.or_true, Bool.true_or, Bool.or_false, Bool.false_or, decide_true, decide_false, not_true_eq_false, not_false_eq_true, Bool.false_eq_true, Bool.true_eq_false]; done) | (simp only [c7, c17, ↓reduceIte, Bool.not_true, Bool.not_false, Bool.and_true, Bool.true_and, Bool.and_false, Bool.false_and, Bool.or_true, Bool.true_or, Bool.or_false, Bool.false_or, decide_true, decide_false, not_true_eq_false, not_false_eq_true, Bool.false_eq_true, Bool.true_eq_false]; rfl) | (simp [c7, c17]; done)) ?_
          exact J27
  refine G.lvp (lv' := [(0, .ref (o 0)), (1, .int (nI t)), (2, .int 0), (3, .int 0)]) [2, 3, 1, 0] rfl ?_
  refine G.lve (lv' := [(0, .ref (o 0)), (1, .int (nI t)), (2, .int (nI (it (ms_kbS s t) 0 0))), (3, .int (nI 0))]) (by rfl) ?_
  exact L4 9 0 (by omega) (by omega)
abbrev rmX4_isMet : Room := { frames := 0, cells := 0, slots := 0, locals := 0 }
theorem cp_X4_isMet : CP yX4_isMet RX4 wsX4_isMet 2 1 rmX4_isMet := ⟨⟨_, _, _, rfl⟩, rfl, rfl, by decide +kernel⟩
theorem inc_X4_isMet_4 : ∀ w ∈ u_ws RX4 TX4 19, w ∈ wsX4_isMet := by decide +kernel
set_option maxHeartbeats 4000000 in
set_option maxRecDepth 100000 in
theorem c_X4_isMet (l : Launch) (E : EV) (pl : Nat) (o : Nat → Nat) (ik : Int32) (be : Int32) (so : Int32) (tp : Int32) (fr : Int32) (tq : Int32) (vl : Int32) (wr : Int32) (s : Nat → Int32) (h1 : pl < 6) : CI l yX4_isMet wsX4_isMet rmX4_isMet E [.ref (o 0), .int (nI pl)] [(o 0, moO o ik be so tp fr tq vl wr), (o 1, arI E 122 s)] [(o 0, moO o ik be so tp fr tq vl wr), (o 1, arI E 122 s)] (bI (ms_met s pl)) := by
  refine CI.of (own := RX4) (cc := cX4_isMet) (nL := 2) (rt := (some .boolean)) (by decide) rfl rfl (Nat.le_of_ble_eq_true rfl) (fun X hX hQ => ?_)
  show G E X 2 0 [(0, .ref (o 0)), (1, .int (nI pl))] [] [(o 0, moO o ik be so tp fr tq vl wr), (o 1, arI E 122 s)]
  refine G.aload_n hX 0 rfl dX4_isMet_0 ?_
  refine G.get hX inc_X4_isMet_4 0 rfl rfl 0 (by decide) (by decide +kernel) rfl dX4_isMet_1 ?_
  refine G.iconst hX (v := 1) (by decide) dX4_isMet_4 ?_
  refine G.iald hX (j := 1) 1 rfl (by omega) (by omega) dX4_isMet_5 ?_
  refine G.iload_n hX 1 rfl dX4_isMet_6 ?_
  refine G.ishr hX dX4_isMet_7 ?_
  refine G.iconst hX (v := 1) (by decide) dX4_isMet_8 ?_
  refine G.iand hX dX4_isMet_9 ?_
  refine G.iconst hX (v := 1) (by decide) dX4_isMet_10 ?_
  refine G.icmp_ne hX (tgt := 18) (by decide) dX4_isMet_11 (fun c11 => ?_) (fun c11 => ?_)
  · refine G.iconst hX (v := 0) (by decide) dX4_isMet_18 ?_
    exact G.zret hX hQ rfl dX4_isMet_19 (bI_0.mpr (by first | rfl | (simp only [ms_met, c11, ↓reduceIte, Bool.not_true, Bool.not_false, Bool.and_true, Bool.true_and, Bool.and_false, Bool.false_and, Bool.or_true, Bool.true_or, Bool.or_false, Bool.false_or, decide_true, decide_false, not_true_eq_false, not_false_eq_true, Bool.false_eq_true, Bool.true_eq_false]; done) | (simp only [ms_met, c11, ↓reduceIte, Bool.not_true, Bool.not_false, Bool.and_true, Bool.true_and, Bool.and_false, Bool.false_and, Bool.or_true, Bool.true_or, Bool.or_false, Bool.false_or, decide_true, decide_false, not_true_eq_false, not_false_eq_true, Bool.false_eq_true, Bool.true_eq_false]; rfl) | (simp [ms_met, c11]; done))).symm (by rfl)
  · refine G.iconst hX (v := 1) (by decide) dX4_isMet_14 ?_
    refine G.goto hX (tgt := 19) (by decide) dX4_isMet_15 ?_
    exact G.zret hX hQ rfl dX4_isMet_19 (bI_1.mpr (by first | rfl | (simp only [ms_met, c11, ↓reduceIte, Bool.not_true, Bool.not_false, Bool.and_true, Bool.true_and, Bool.and_false, Bool.false_and, Bool.or_true, Bool.true_or, Bool.or_false, Bool.false_or, decide_true, decide_false, not_true_eq_false, not_false_eq_true, Bool.false_eq_true, Bool.true_eq_false]; done) | (simp only [ms_met, c11, ↓reduceIte, Bool.not_true, Bool.not_false, Bool.and_true, Bool.true_and, Bool.and_false, Bool.false_and, Bool.or_true, Bool.true_or, Bool.or_false, Bool.false_or, decide_true, decide_false, not_true_eq_false, not_false_eq_true, Bool.false_eq_true, Bool.true_eq_false]; rfl) | (simp [ms_met, c11]; done))).symm (by rfl)
abbrev rmX4_meets : Room := { frames := 1, cells := 0, slots := 0, locals := 21 }
theorem cp_X4_meets : CP yX4_meets RX4 wsX4_meets 4 2 rmX4_meets := ⟨⟨_, _, _, rfl⟩, rfl, rfl, by decide +kernel⟩
theorem inc_X4_meets_4 : ∀ w ∈ u_ws RX4 TX4 19, w ∈ wsX4_meets := by decide +kernel
set_option maxHeartbeats 4000000 in
set_option maxRecDepth 100000 in
theorem c_X4_meets (l : Launch) (E : EV) (pl : Nat) (b : Bool) (o : Nat → Nat) (ik : Int32) (be : Int32) (so : Int32) (tp : Int32) (fr : Int32) (tq : Int32) (vl : Int32) (wr : Int32) (s : Nat → Int32) (h1 : pl < 6) : CI l yX4_meets wsX4_meets rmX4_meets E [.ref (o 0), .int (nI pl), .int (bI b)] [(o 0, moO o ik be so tp fr tq vl wr), (o 1, arI E 122 s)] [(o 0, moO o ik be so tp fr tq vl wr), (o 1, arI E 122 (ms_meets s pl b))] (bI (ms_met s pl)) := by
  refine CI.of (own := RX4) (cc := cX4_meets) (nL := 4) (rt := (some .int)) (by decide) rfl rfl (Nat.le_of_ble_eq_true rfl) (fun X hX hQ => ?_)
  show G E X 4 0 [(0, .ref (o 0)), (1, .int (nI pl)), (2, .int (bI b))] [] [(o 0, moO o ik be so tp fr tq vl wr), (o 1, arI E 122 s)]
  refine G.aload_n hX 0 rfl dX4_meets_0 ?_
  refine G.iload_n hX 1 rfl dX4_meets_1 ?_
  refine G.vi hX (As := [.int (nI pl)]) (st := []) (wr := []) (wf := [(o 0, moO o ik be so tp fr tq vl wr), (o 1, arI E 122 s)]) (q0 := 0) (ci := 4) rfl rfl (c_X4_isMet _ E (pl := pl) (o := o) (ik := ik) (be := be) (so := so) (tp := tp) (fr := fr) (tq := tq) (vl := vl) (wr := wr) (s := s) (h1 := by omega)) gX4_meets_X4_isMet cp_X4_isMet (by decide) [0, 1] [] [0, 1] ⟨rfl, rfl, by decide, rfl⟩ rfl rfl (Nat.le_of_ble_eq_true rfl) dX4_meets_2 ?_
  have J13 : G E X 4 13 [(0, .ref (o 0)), (1, .int (nI pl)), (2, .int (bI b))] [.int (bI (ms_met s pl))] [(o 0, moO o ik be so tp fr tq vl wr), (o 1, arI E 122 s)] := by
    refine G.istore_n hX (lv' := [(3, .int (bI (ms_met s pl))), (0, .ref (o 0)), (1, .int (nI pl)), (2, .int (bI b))]) rfl (by decide) rfl dX4_meets_13 ?_
    have J48 : G E X 4 48 [(3, .int (bI (ms_met s pl)))] [.int (if b then s 1 ||| (1 <<< (nI pl &&& 31)) else s 1 &&& ((1 <<< (nI pl &&& 31)) ^^^ (-1))), .int 1, .ref (o 1)] [(o 0, moO o ik be so tp fr tq vl wr), (o 1, arI E 122 s)] := by
      refine G.iast hX (j := 1) (ws' := [(o 0, moO o ik be so tp fr tq vl wr), (o 1, arI E 122 (upd s 1 (if b then s 1 ||| (1 <<< (nI pl &&& 31)) else s 1 &&& ((1 <<< (nI pl &&& 31)) ^^^ (-1)))))]) 1 rfl (by omega) (by omega) rfl rfl dX4_meets_48 ?_
      refine G.iload_n hX 0 rfl dX4_meets_49 ?_
      exact G.iret hX hQ dX4_meets_50 (by rfl) (by rfl)
    refine G.aload_n hX 1 rfl dX4_meets_14 ?_
    refine G.get hX inc_X4_meets_4 0 rfl rfl 0 (by decide) (by decide +kernel) rfl dX4_meets_15 ?_
    refine G.iconst hX (v := 1) (by decide) dX4_meets_18 ?_
    refine G.iload_n hX 3 rfl dX4_meets_19 ?_
    refine G.b_eq hX (tgt := 36) (by decide) dX4_meets_20 (fun c20 => ?_) (fun c20 => ?_)
    · refine G.aload_n hX 1 rfl dX4_meets_36 ?_
      refine G.get hX inc_X4_meets_4 0 rfl rfl 0 (by decide) (by decide +kernel) rfl dX4_meets_37 ?_
      refine G.iconst hX (v := 1) (by decide) dX4_meets_40 ?_
      refine G.iald hX (j := 1) 1 rfl (by omega) (by omega) dX4_meets_41 ?_
      refine G.iconst hX (v := 1) (by decide) dX4_meets_42 ?_
      refine G.iload_n hX 2 rfl dX4_meets_43 ?_
      refine G.ishl hX dX4_meets_44 ?_
      refine G.iconst hX (v := -1) (by decide) dX4_meets_45 ?_
      refine G.ixor hX dX4_meets_46 ?_
      refine G.iand hX dX4_meets_47 ?_
      refine G.lvp (lv' := [(3, .int (bI (ms_met s pl)))]) [0] rfl ?_
      refine G.ve (y := .int (if b then s 1 ||| (1 <<< (nI pl &&& 31)) else s 1 &&& ((1 <<< (nI pl &&& 31)) ^^^ (-1)))) (by first | rfl | (simp only [c20, ↓reduceIte, Bool.not_true, Bool.not_false, Bool.and_true, Bool.true_and, Bool.and_false, Bool.false_and, Bool.or_true, Bool.true_or, Bool.or_false, Bool.false_or, decide_true, decide_false, not_true_eq_false, not_false_eq_true, Bool.false_eq_true, Bool.true_eq_false]; done) | (simp only [c20, ↓reduceIte, Bool.not_true, Bool.not_false, Bool.and_true, Bool.true_and, Bool.and_false, Bool.false_and, Bool.or_true, Bool.true_or, Bool.or_false, Bool.false_or, decide_true, decide_false, not_true_eq_false, not_false_eq_true, Bool.false_eq_true, Bool.true_eq_false]; rfl) | (simp [c20]; done)) ?_
      exact J48
    · refine G.aload_n hX 1 rfl dX4_meets_23 ?_
      refine G.get hX inc_X4_meets_4 0 rfl rfl 0 (by decide) (by decide +kernel) rfl dX4_meets_24 ?_
      refine G.iconst hX (v := 1) (by decide) dX4_meets_27 ?_
      refine G.iald hX (j := 1) 1 rfl (by omega) (by omega) dX4_meets_28 ?_
      refine G.iconst hX (v := 1) (by decide) dX4_meets_29 ?_
      refine G.iload_n hX 2 rfl dX4_meets_30 ?_
      refine G.ishl hX dX4_meets_31 ?_
      refine G.ior hX dX4_meets_32 ?_
      refine G.goto hX (tgt := 48) (by decide) dX4_meets_33 ?_
      refine G.lvp (lv' := [(3, .int (bI (ms_met s pl)))]) [0] rfl ?_
      refine G.ve (y := .int (if b then s 1 ||| (1 <<< (nI pl &&& 31)) else s 1 &&& ((1 <<< (nI pl &&& 31)) ^^^ (-1)))) (by first | rfl | (simp only [c20, ↓reduceIte, Bool.not_true, Bool.not_false, Bool.and_true, Bool.true_and, Bool.and_false, Bool.false_and, Bool.or_true, Bool.true_or, Bool.or_false, Bool.false_or, decide_true, decide_false, not_true_eq_false, not_false_eq_true, Bool.false_eq_true, Bool.true_eq_false]; done) | (simp only [c20, ↓reduceIte, Bool.not_true, Bool.not_false, Bool.and_true, Bool.true_and, Bool.and_false, Bool.false_and, Bool.or_true, Bool.true_or, Bool.or_false, Bool.false_or, decide_true, decide_false, not_true_eq_false, not_false_eq_true, Bool.false_eq_true, Bool.true_eq_false]; rfl) | (simp [c20]; done)) ?_
      exact J48
  refine G.b_eq hX (tgt := 12) (by decide) dX4_meets_5 (fun c5 => ?_) (fun c5 => ?_)
  · refine G.iconst hX (v := 0) (by decide) dX4_meets_12 ?_
    refine G.ie (y := bI (ms_met s pl)) (by first | rfl | (simp only [bI, c5, ↓reduceIte, Bool.not_true, Bool.not_false, Bool.and_true, Bool.true_and, Bool.and_false, Bool.false_and, Bool.or_true, Bool.true_or, Bool.or_false, Bool.false_or, decide_true, decide_false, not_true_eq_false, not_false_eq_true, Bool.false_eq_true, Bool.true_eq_false]; done) | (simp only [bI, c5, ↓reduceIte, Bool.not_true, Bool.not_false, Bool.and_true, Bool.true_and, Bool.and_false, Bool.false_and, Bool.or_true, Bool.true_or, Bool.or_false, Bool.false_or, decide_true, decide_false, not_true_eq_false, not_false_eq_true, Bool.false_eq_true, Bool.true_eq_false]; rfl) | (simp [bI, c5]; done)) ?_
    exact J13
  · refine G.iconst hX (v := 1) (by decide) dX4_meets_8 ?_
    refine G.goto hX (tgt := 13) (by decide) dX4_meets_9 ?_
    refine G.ie (y := bI (ms_met s pl)) (by first | rfl | (simp only [bI, c5, ↓reduceIte, Bool.not_true, Bool.not_false, Bool.and_true, Bool.true_and, Bool.and_false, Bool.false_and, Bool.or_true, Bool.true_or, Bool.or_false, Bool.false_or, decide_true, decide_false, not_true_eq_false, not_false_eq_true, Bool.false_eq_true, Bool.true_eq_false]; done) | (simp only [bI, c5, ↓reduceIte, Bool.not_true, Bool.not_false, Bool.and_true, Bool.true_and, Bool.and_false, Bool.false_and, Bool.or_true, Bool.true_or, Bool.or_false, Bool.false_or, decide_true, decide_false, not_true_eq_false, not_false_eq_true, Bool.false_eq_true, Bool.true_eq_false]; rfl) | (simp [bI, c5]; done)) ?_
    exact J13
abbrev rmX4_knowing : Room := { frames := 4, cells := 0, slots := 0, locals := 87 }
theorem cp_X4_knowing : CP yX4_knowing RX4 wsX4_knowing 4 1 rmX4_knowing := ⟨⟨_, _, _, rfl⟩, rfl, rfl, by decide +kernel⟩
set_option maxHeartbeats 4000000 in
set_option maxRecDepth 100000 in
theorem c_X4_knowing (l : Launch) (E : EV) (m : Nat) (o : Nat → Nat) (ik : Int32) (be : Int32) (so : Int32) (tp : Int32) (fr : Int32) (tq : Int32) (vl : Int32) (wr : Int32) (s : Nat → Int32) (h1 : m < 8) : CI l yX4_knowing wsX4_knowing rmX4_knowing E [.ref (o 0), .int (nI m)] [(o 0, moO o ik be so tp fr tq vl wr), (o 1, arI E 122 s)] [(o 0, moO o ik be so tp fr tq vl wr), (o 1, arI E 122 s)] (nI (ms_kn s m)) := by
  refine CI.of (own := RX4) (cc := cX4_knowing) (nL := 4) (rt := (some .int)) (by decide) rfl rfl (Nat.le_of_ble_eq_true rfl) (fun X hX hQ => ?_)
  show G E X 4 0 [(0, .ref (o 0)), (1, .int (nI m))] [] [(o 0, moO o ik be so tp fr tq vl wr), (o 1, arI E 122 s)]
  refine G.iconst hX (v := 0) (by decide) dX4_knowing_0 ?_
  refine G.istore_n hX (lv' := [(2, .int 0), (0, .ref (o 0)), (1, .int (nI m))]) rfl (by decide) rfl dX4_knowing_1 ?_
  refine G.iconst hX (v := 0) (by decide) dX4_knowing_2 ?_
  refine G.istore_n hX (lv' := [(3, .int 0), (2, .int 0), (0, .ref (o 0)), (1, .int (nI m))]) rfl (by decide) rfl dX4_knowing_3 ?_
  have L4 : ∀ (n : Nat) (t : Nat), t ≤ 12 → 13 ≤ t + n → G E X 4 4 [(0, .ref (o 0)), (1, .int (nI m)), (2, .int (nI (it (ms_knS s m) t 0))), (3, .int (nI t))] [] [(o 0, moO o ik be so tp fr tq vl wr), (o 1, arI E 122 s)] := by
    intro n
    induction n with
    | zero => intro t hl4_0 hl4_1; exact absurd hl4_1 (by omega)
    | succ n ih4 =>
      intro t hl4_0 hl4_1
      refine G.iload_n hX 3 rfl dX4_knowing_4 ?_
      refine G.bipush hX (v := 12) (by decide) dX4_knowing_5 ?_
      refine G.n_ge hX (a := t) (b := 12) (tgt := 33) (by omega) (by omega) (by decide) dX4_knowing_7 (fun c7 => ?_) (fun c7 => ?_)
      · refine G.iload_n hX 2 rfl dX4_knowing_33 ?_
        exact G.iret hX hQ dX4_knowing_34 (by obtain rfl : t = 12 := (by omega); rfl) (by rfl)
      · refine G.iload_n hX 2 rfl dX4_knowing_10 ?_
        refine G.aload_n hX 0 rfl dX4_knowing_11 ?_
        refine G.iload_n hX 3 rfl dX4_knowing_12 ?_
        refine G.iload_n hX 1 rfl dX4_knowing_13 ?_
        refine G.vi hX (As := [.int (nI t), .int (nI m)]) (st := [.int (nI (it (ms_knS s m) t 0))]) (wr := []) (wf := [(o 0, moO o ik be so tp fr tq vl wr), (o 1, arI E 122 s)]) (q0 := 0) (ci := 4) rfl rfl (c_X4_isKnown _ E (t := t) (m := m) (o := o) (ik := ik) (be := be) (so := so) (tp := tp) (fr := fr) (tq := tq) (vl := vl) (wr := wr) (s := s) (h1 := by omega) (h2 := by omega)) gX4_knowing_X4_isKnown cp_X4_isKnown (by decide) [0, 1] [] [0, 1] ⟨rfl, rfl, by decide, rfl⟩ rfl rfl (Nat.le_of_ble_eq_true rfl) dX4_knowing_14 ?_
        have J25 : G E X 4 25 [(0, .ref (o 0)), (1, .int (nI m)), (2, .int (nI (it (ms_knS s m) t 0))), (3, .int (nI t))] [.int (nI (if ms_k s t m then 1 else 0)), .int (nI (it (ms_knS s m) t 0))] [(o 0, moO o ik be so tp fr tq vl wr), (o 1, arI E 122 s)] := by
          refine G.iadd hX dX4_knowing_25 ?_
          refine G.ie (y := nI (it (ms_knS s m) (t + 1) 0)) (by exact nI_add _ _) ?_
          refine G.istore_n hX (lv' := [(2, .int (nI (it (ms_knS s m) (t + 1) 0))), (0, .ref (o 0)), (1, .int (nI m)), (3, .int (nI t))]) rfl (by decide) rfl dX4_knowing_26 ?_
          refine G.iinc hX (n := 1) (lv' := [(3, .int (nI (t + 1))), (2, .int (nI (it (ms_knS s m) (t + 1) 0))), (0, .ref (o 0)), (1, .int (nI m))]) 3 rfl (inc_nI t 1 rfl) (by decide) rfl dX4_knowing_27 ?_
          refine G.goto hX (tgt := 4) (by decide) dX4_knowing_30 ?_
          refine G.lvp (lv' := [(0, .ref (o 0)), (1, .int (nI m)), (2, .int (nI (it (ms_knS s m) (t + 1) 0))), (3, .int (nI (t + 1)))]) [2, 3, 1, 0] rfl ?_
          refine G.lve (lv' := [(0, .ref (o 0)), (1, .int (nI m)), (2, .int (nI (it (ms_knS s m) (t + 1) 0))), (3, .int (nI ((t + 1))))]) (by rfl) ?_
          exact ih4 (t + 1) (by omega) (by omega)
        refine G.b_eq hX (tgt := 24) (by decide) dX4_knowing_17 (fun c17 => ?_) (fun c17 => ?_)
        · refine G.iconst hX (v := 0) (by decide) dX4_knowing_24 ?_
          refine G.ve (y := .int (nI (if ms_k s t m then 1 else 0))) (by first | rfl | (simp only [c7, c17, ↓reduceIte, Bool.not_true, Bool.not_false, Bool.and_true, Bool.true_and, Bool.and_false, Bool.false_and, Bool.or_true, Bool.true_or, Bool.or_false, Bool.false_or, decide_true, decide_false, not_true_eq_false, not_false_eq_true, Bool.false_eq_true, Bool.true_eq_false]; done) | (simp only [c7, c17, ↓reduceIte, Bool.not_true, Bool.not_false, Bool.and_true, Bool.true_and, Bool.and_false, Bool.false_and, Bool.or_true, Bool.true_or, Bool.or_false, Bool.false_or, decide_true, decide_false, not_true_eq_false, not_false_eq_true, Bool.false_eq_true, Bool.true_eq_false]; rfl) | (simp [c7, c17]; done)) ?_
          exact J25
        · refine G.iconst hX (v := 1) (by decide) dX4_knowing_20 ?_
          refine G.goto hX (tgt := 25) (by decide) dX4_knowing_21 ?_
          refine G.ve (y := .int (nI (if ms_k s t m then 1 else 0))) (by first | rfl | (simp only [c7, c17, ↓reduceIte, Bool.not_true, Bool.not_false, Bool.and_true, Bool.true_and, Bool.and_false, Bool.false_and, Bool.or_true, Bool.true_or, Bool.or_false, Bool.false_or, decide_true, decide_false, not_true_eq_false, not_false_eq_true, Bool.false_eq_true, Bool.true_eq_false]; done) | (simp only [c7, c17, ↓reduceIte, Bool.not_true, Bool.not_false, Bool.and_true, Bool.true_and, Bool.and_false, Bool.false_and, Bool.or_true, Bool.true_or, Bool.or_false, Bool.false_or, decide_true, decide_false, not_true_eq_false, not_false_eq_true, Bool.false_eq_true, Bool.true_eq_false]; rfl) | (simp [c7, c17]; done)) ?_
          exact J25
  refine G.lvp (lv' := [(0, .ref (o 0)), (1, .int (nI m)), (2, .int 0), (3, .int 0)]) [2, 3, 1, 0] rfl ?_
  refine G.lve (lv' := [(0, .ref (o 0)), (1, .int (nI m)), (2, .int (nI (it (ms_knS s m) 0 0))), (3, .int (nI 0))]) (by rfl) ?_
  exact L4 13 0 (by omega) (by omega)
abbrev rmX4_isTold : Room := { frames := 4, cells := 0, slots := 0, locals := 87 }
theorem cp_X4_isTold : CP yX4_isTold RX4 wsX4_isTold 4 3 rmX4_isTold := ⟨⟨_, _, _, rfl⟩, rfl, rfl, by decide +kernel⟩
theorem inc_X4_isTold_4 : ∀ w ∈ u_ws RX4 TX4 19, w ∈ wsX4_isTold := by decide +kernel
set_option maxHeartbeats 4000000 in
set_option maxRecDepth 100000 in
theorem c_X4_isTold (l : Launch) (E : EV) (t : Nat) (m : Nat) (w : Int32) (o : Nat → Nat) (ik : Int32) (be : Int32) (so : Int32) (tp : Int32) (fr : Int32) (tq : Int32) (vl : Int32) (wr : Int32) (s : Nat → Int32) (h1 : t < 12) (h2 : m < 8) : CI l yX4_isTold wsX4_isTold rmX4_isTold E [.ref (o 0), .int (nI t), .int (nI m), .int w] [(o 0, moO o ik be so tp fr tq vl wr), (o 1, arI E 122 s)] [(o 0, moO o ik be so tp fr tq vl wr), (o 1, arI E 122 s)] (bI (ms_told s t m w)) := by
  refine CI.of (own := RX4) (cc := cX4_isTold) (nL := 4) (rt := (some .boolean)) (by decide) rfl rfl (Nat.le_of_ble_eq_true rfl) (fun X hX hQ => ?_)
  show G E X 4 0 [(0, .ref (o 0)), (1, .int (nI t)), (2, .int (nI m)), (3, .int w)] [] [(o 0, moO o ik be so tp fr tq vl wr), (o 1, arI E 122 s)]
  refine G.aload_n hX 0 rfl dX4_isTold_0 ?_
  refine G.iload_n hX 1 rfl dX4_isTold_1 ?_
  refine G.iload_n hX 2 rfl dX4_isTold_2 ?_
  refine G.vi hX (As := [.int (nI t), .int (nI m)]) (st := []) (wr := []) (wf := [(o 0, moO o ik be so tp fr tq vl wr), (o 1, arI E 122 s)]) (q0 := 0) (ci := 4) rfl rfl (c_X4_isKnown _ E (t := t) (m := m) (o := o) (ik := ik) (be := be) (so := so) (tp := tp) (fr := fr) (tq := tq) (vl := vl) (wr := wr) (s := s) (h1 := by omega) (h2 := by omega)) gX4_isTold_X4_isKnown cp_X4_isKnown (by decide) [0, 1] [] [0, 1] ⟨rfl, rfl, by decide, rfl⟩ rfl rfl (Nat.le_of_ble_eq_true rfl) dX4_isTold_3 ?_
  refine G.b_eq hX (tgt := 30) (by decide) dX4_isTold_6 (fun c6 => ?_) (fun c6 => ?_)
  · refine G.iconst hX (v := 0) (by decide) dX4_isTold_30 ?_
    exact G.zret hX hQ rfl dX4_isTold_31 (bI_0.mpr (by first | rfl | (simp only [ms_told, c6, ↓reduceIte, Bool.not_true, Bool.not_false, Bool.and_true, Bool.true_and, Bool.and_false, Bool.false_and, Bool.or_true, Bool.true_or, Bool.or_false, Bool.false_or, decide_true, decide_false, not_true_eq_false, not_false_eq_true, Bool.false_eq_true, Bool.true_eq_false]; done) | (simp only [ms_told, c6, ↓reduceIte, Bool.not_true, Bool.not_false, Bool.and_true, Bool.true_and, Bool.and_false, Bool.false_and, Bool.or_true, Bool.true_or, Bool.or_false, Bool.false_or, decide_true, decide_false, not_true_eq_false, not_false_eq_true, Bool.false_eq_true, Bool.true_eq_false]; rfl) | (simp [ms_told, c6]; done))).symm (by rfl)
  · refine G.aload_n hX 0 rfl dX4_isTold_9 ?_
    refine G.get hX inc_X4_isTold_4 0 rfl rfl 0 (by decide) (by decide +kernel) rfl dX4_isTold_10 ?_
    refine G.iconst hX (v := 0) (by decide) dX4_isTold_13 ?_
    refine G.iald hX (j := 0) 1 rfl (by omega) (by omega) dX4_isTold_14 ?_
    refine G.aload_n hX 0 rfl dX4_isTold_15 ?_
    refine G.iload_n hX 1 rfl dX4_isTold_16 ?_
    refine G.iload_n hX 2 rfl dX4_isTold_17 ?_
    refine G.vi hX (As := [.int (nI t), .int (nI m)]) (st := [.int (s 0)]) (wr := []) (wf := [(o 0, moO o ik be so tp fr tq vl wr), (o 1, arI E 122 s)]) (q0 := 0) (ci := 4) rfl rfl (c_X4_sinceOf _ E (t := t) (m := m) (o := o) (ik := ik) (be := be) (so := so) (tp := tp) (fr := fr) (tq := tq) (vl := vl) (wr := wr) (s := s) (h1 := by omega) (h2 := by omega)) gX4_isTold_X4_sinceOf cp_X4_sinceOf (by decide) [0, 1] [] [0, 1] ⟨rfl, rfl, by decide, rfl⟩ rfl rfl (Nat.le_of_ble_eq_true rfl) dX4_isTold_18 ?_
    refine G.isub hX dX4_isTold_21 ?_
    refine G.iload_n hX 3 rfl dX4_isTold_22 ?_
    refine G.icmp_lt hX (tgt := 30) (by decide) dX4_isTold_23 (fun c23 => ?_) (fun c23 => ?_)
    · refine G.iconst hX (v := 0) (by decide) dX4_isTold_30 ?_
      exact G.zret hX hQ rfl dX4_isTold_31 (bI_0.mpr (by first | rfl | (simp only [ms_told, c6, c23, ↓reduceIte, Bool.not_true, Bool.not_false, Bool.and_true, Bool.true_and, Bool.and_false, Bool.false_and, Bool.or_true, Bool.true_or, Bool.or_false, Bool.false_or, decide_true, decide_false, not_true_eq_false, not_false_eq_true, Bool.false_eq_true, Bool.true_eq_false]; done) | (simp only [ms_told, c6, c23, ↓reduceIte, Bool.not_true, Bool.not_false, Bool.and_true, Bool.true_and, Bool.and_false, Bool.false_and, Bool.or_true, Bool.true_or, Bool.or_false, Bool.false_or, decide_true, decide_false, not_true_eq_false, not_false_eq_true, Bool.false_eq_true, Bool.true_eq_false]; rfl) | (simp [ms_told, c6, c23]; done))).symm (by rfl)
    · refine G.iconst hX (v := 1) (by decide) dX4_isTold_26 ?_
      refine G.goto hX (tgt := 31) (by decide) dX4_isTold_27 ?_
      exact G.zret hX hQ rfl dX4_isTold_31 (bI_1.mpr (by first | rfl | (simp only [ms_told, c6, c23, ↓reduceIte, Bool.not_true, Bool.not_false, Bool.and_true, Bool.true_and, Bool.and_false, Bool.false_and, Bool.or_true, Bool.true_or, Bool.or_false, Bool.false_or, decide_true, decide_false, not_true_eq_false, not_false_eq_true, Bool.false_eq_true, Bool.true_eq_false]; done) | (simp only [ms_told, c6, c23, ↓reduceIte, Bool.not_true, Bool.not_false, Bool.and_true, Bool.true_and, Bool.and_false, Bool.false_and, Bool.or_true, Bool.true_or, Bool.or_false, Bool.false_or, decide_true, decide_false, not_true_eq_false, not_false_eq_true, Bool.false_eq_true, Bool.true_eq_false]; rfl) | (simp [ms_told, c6, c23]; done))).symm (by rfl)
abbrev rmX4_newsOf : Room := { frames := 5, cells := 0, slots := 0, locals := 110 }
theorem cp_X4_newsOf : CP yX4_newsOf RX4 wsX4_newsOf 6 1 rmX4_newsOf := ⟨⟨_, _, _, rfl⟩, rfl, rfl, by decide +kernel⟩
set_option maxHeartbeats 4000000 in
set_option maxRecDepth 100000 in
theorem c_X4_newsOf (l : Launch) (E : EV) (t : Nat) (o : Nat → Nat) (ik : Int32) (be : Int32) (so : Int32) (tp : Int32) (fr : Int32) (tq : Int32) (vl : Int32) (wr : Int32) (s : Nat → Int32) (h1 : t < 12) : CI l yX4_newsOf wsX4_newsOf rmX4_newsOf E [.ref (o 0), .int (nI t)] [(o 0, moO o ik be so tp fr tq vl wr), (o 1, arI E 122 s)] [(o 0, moO o ik be so tp fr tq vl wr), (o 1, arI E 122 s)] (nI (ms_news s t)) := by
  refine CI.of (own := RX4) (cc := cX4_newsOf) (nL := 6) (rt := (some .int)) (by decide) rfl rfl (Nat.le_of_ble_eq_true rfl) (fun X hX hQ => ?_)
  show G E X 6 0 [(0, .ref (o 0)), (1, .int (nI t))] [] [(o 0, moO o ik be so tp fr tq vl wr), (o 1, arI E 122 s)]
  refine G.iconst hX (v := 0) (by decide) dX4_newsOf_0 ?_
  refine G.istore_n hX (lv' := [(2, .int 0), (0, .ref (o 0)), (1, .int (nI t))]) rfl (by decide) rfl dX4_newsOf_1 ?_
  refine G.iconst hX (v := 0) (by decide) dX4_newsOf_2 ?_
  refine G.istore_n hX (lv' := [(3, .int 0), (2, .int 0), (0, .ref (o 0)), (1, .int (nI t))]) rfl (by decide) rfl dX4_newsOf_3 ?_
  have L4 : ∀ (n : Nat) (m : Nat), m ≤ 8 → 9 ≤ m + n → G E X 6 4 [(0, .ref (o 0)), (1, .int (nI t)), (2, .int (nI (it (ms_newsS s t) m 0))), (3, .int (nI m))] [] [(o 0, moO o ik be so tp fr tq vl wr), (o 1, arI E 122 s)] := by
    intro n
    induction n with
    | zero => intro m hl4_0 hl4_1; exact absurd hl4_1 (by omega)
    | succ n ih4 =>
      intro m hl4_0 hl4_1
      refine G.iload_n hX 3 rfl dX4_newsOf_4 ?_
      refine G.bipush hX (v := 8) (by decide) dX4_newsOf_5 ?_
      refine G.n_ge hX (a := m) (b := 8) (tgt := 128) (by omega) (by omega) (by decide) dX4_newsOf_7 (fun c7 => ?_) (fun c7 => ?_)
      · refine G.iload_n hX 2 rfl dX4_newsOf_128 ?_
        exact G.iret hX hQ dX4_newsOf_129 (by obtain rfl : m = 8 := (by omega); rfl) (by rfl)
      · have J47 : G E X 6 47 [(0, .ref (o 0)), (1, .int (nI t)), (2, .int (nI (it (ms_newsS s t) m 0))), (3, .int (nI m))] [.int (bI (!(decide (t ≤ 1)) && ms_hear s t false && ms_told s (t - 2) m (ms_leans s (t - 2))))] [(o 0, moO o ik be so tp fr tq vl wr), (o 1, arI E 122 s)] := by
          refine G.istore hX (lv' := [(4, .int (bI (!(decide (t ≤ 1)) && ms_hear s t false && ms_told s (t - 2) m (ms_leans s (t - 2))))), (0, .ref (o 0)), (1, .int (nI t)), (2, .int (nI (it (ms_newsS s t) m 0))), (3, .int (nI m))]) (by decide) rfl dX4_newsOf_47 ?_
          have J91 : G E X 6 91 [(0, .ref (o 0)), (1, .int (nI t)), (2, .int (nI (it (ms_newsS s t) m 0))), (3, .int (nI m)), (4, .int (bI (!(decide (t ≤ 1)) && ms_hear s t false && ms_told s (t - 2) m (ms_leans s (t - 2)))))] [.int (bI (ms_met s (t / 2) && ms_hear s t true && ms_told s (t ^^^ 1) m (ms_nods s (t ^^^ 1))))] [(o 0, moO o ik be so tp fr tq vl wr), (o 1, arI E 122 s)] := by
            refine G.istore hX (lv' := [(5, .int (bI (ms_met s (t / 2) && ms_hear s t true && ms_told s (t ^^^ 1) m (ms_nods s (t ^^^ 1))))), (0, .ref (o 0)), (1, .int (nI t)), (2, .int (nI (it (ms_newsS s t) m 0))), (3, .int (nI m)), (4, .int (bI (!(decide (t ≤ 1)) && ms_hear s t false && ms_told s (t - 2) m (ms_leans s (t - 2)))))]) (by decide) rfl dX4_newsOf_91 ?_
            have J120 : G E X 6 120 [(0, .ref (o 0)), (1, .int (nI t)), (3, .int (nI m))] [.int (nI (if ms_newsB s t m then 2 ^ m else 0)), .int (nI (it (ms_newsS s t) m 0))] [(o 0, moO o ik be so tp fr tq vl wr), (o 1, arI E 122 s)] := by
              refine G.ior hX dX4_newsOf_120 ?_
              refine G.ie (y := nI (it (ms_newsS s t) (m + 1) 0)) (by exact nI_or _ _) ?_
              refine G.istore_n hX (lv' := [(2, .int (nI (it (ms_newsS s t) (m + 1) 0))), (0, .ref (o 0)), (1, .int (nI t)), (3, .int (nI m))]) rfl (by decide) rfl dX4_newsOf_121 ?_
              refine G.iinc hX (n := 1) (lv' := [(3, .int (nI (m + 1))), (2, .int (nI (it (ms_newsS s t) (m + 1) 0))), (0, .ref (o 0)), (1, .int (nI t))]) 3 rfl (inc_nI m 1 rfl) (by decide) rfl dX4_newsOf_122 ?_
              refine G.goto hX (tgt := 4) (by decide) dX4_newsOf_125 ?_
              refine G.lvp (lv' := [(0, .ref (o 0)), (1, .int (nI t)), (2, .int (nI (it (ms_newsS s t) (m + 1) 0))), (3, .int (nI (m + 1)))]) [2, 3, 1, 0] rfl ?_
              refine G.lve (lv' := [(0, .ref (o 0)), (1, .int (nI t)), (2, .int (nI (it (ms_newsS s t) (m + 1) 0))), (3, .int (nI ((m + 1))))]) (by rfl) ?_
              exact ih4 (m + 1) (by omega) (by omega)
            refine G.iload_n hX 3 rfl dX4_newsOf_93 ?_
            refine G.aload_n hX 1 rfl dX4_newsOf_94 ?_
            refine G.iload_n hX 2 rfl dX4_newsOf_95 ?_
            refine G.iload_n hX 4 rfl dX4_newsOf_96 ?_
            refine G.vi hX (As := [.int (nI t), .int (nI m)]) (st := [.int (nI (it (ms_newsS s t) m 0))]) (wr := []) (wf := [(o 0, moO o ik be so tp fr tq vl wr), (o 1, arI E 122 s)]) (q0 := 0) (ci := 4) rfl rfl (c_X4_isKnown _ E (t := t) (m := m) (o := o) (ik := ik) (be := be) (so := so) (tp := tp) (fr := fr) (tq := tq) (vl := vl) (wr := wr) (s := s) (h1 := by omega) (h2 := by omega)) gX4_newsOf_X4_isKnown cp_X4_isKnown (by decide) [0, 1] [] [0, 1] ⟨rfl, rfl, by decide, rfl⟩ rfl rfl (Nat.le_of_ble_eq_true rfl) dX4_newsOf_97 ?_
            refine G.b_ne hX (tgt := 119) (by decide) dX4_newsOf_100 (fun c100 => ?_) (fun c100 => ?_)
            · refine G.iconst hX (v := 0) (by decide) dX4_newsOf_119 ?_
              refine G.lvp (lv' := [(0, .ref (o 0)), (1, .int (nI t)), (3, .int (nI m))]) [1, 2, 4] rfl ?_
              refine G.ve (y := .int (nI (if ms_newsB s t m then 2 ^ m else 0))) (by first | rfl | (simp only [ms_newsB, c7, c100, ↓reduceIte, Bool.not_true, Bool.not_false, Bool.and_true, Bool.true_and, Bool.and_false, Bool.false_and, Bool.or_true, Bool.true_or, Bool.or_false, Bool.false_or, decide_true, decide_false, not_true_eq_false, not_false_eq_true, Bool.false_eq_true, Bool.true_eq_false]; done) | (simp only [ms_newsB, c7, c100, ↓reduceIte, Bool.not_true, Bool.not_false, Bool.and_true, Bool.true_and, Bool.and_false, Bool.false_and, Bool.or_true, Bool.true_or, Bool.or_false, Bool.false_or, decide_true, decide_false, not_true_eq_false, not_false_eq_true, Bool.false_eq_true, Bool.true_eq_false]; rfl) | (simp [ms_newsB, c7, c100]; done)) ?_
              exact J120
            · refine G.iload hX 5 rfl dX4_newsOf_103 ?_
              refine G.b_ne hX (tgt := 113) (by decide) dX4_newsOf_105 (fun c105 => ?_) (fun c105 => ?_)
              · refine G.iconst hX (v := 1) (by decide) dX4_newsOf_113 ?_
                refine G.iload_n hX 4 rfl dX4_newsOf_114 ?_
                refine G.ishl hX dX4_newsOf_115 ?_
                refine G.ie (y := nI (2 ^ m)) (by exact shl1 m (by omega)) ?_
                refine G.goto hX (tgt := 120) (by decide) dX4_newsOf_116 ?_
                refine G.lvp (lv' := [(0, .ref (o 0)), (1, .int (nI t)), (3, .int (nI m))]) [1, 2, 4] rfl ?_
                refine G.ve (y := .int (nI (if ms_newsB s t m then 2 ^ m else 0))) (by first | rfl | (simp only [ms_newsB, c7, c100, c105, ↓reduceIte, Bool.not_true, Bool.not_false, Bool.and_true, Bool.true_and, Bool.and_false, Bool.false_and, Bool.or_true, Bool.true_or, Bool.or_false, Bool.false_or, decide_true, decide_false, not_true_eq_false, not_false_eq_true, Bool.false_eq_true, Bool.true_eq_false]; done) | (simp only [ms_newsB, c7, c100, c105, ↓reduceIte, Bool.not_true, Bool.not_false, Bool.and_true, Bool.true_and, Bool.and_false, Bool.false_and, Bool.or_true, Bool.true_or, Bool.or_false, Bool.false_or, decide_true, decide_false, not_true_eq_false, not_false_eq_true, Bool.false_eq_true, Bool.true_eq_false]; rfl) | (simp [ms_newsB, c7, c100, c105]; done)) ?_
                exact J120
              · refine G.iload hX 0 rfl dX4_newsOf_108 ?_
                refine G.b_eq hX (tgt := 119) (by decide) dX4_newsOf_110 (fun c110 => ?_) (fun c110 => ?_)
                · refine G.iconst hX (v := 0) (by decide) dX4_newsOf_119 ?_
                  refine G.lvp (lv' := [(0, .ref (o 0)), (1, .int (nI t)), (3, .int (nI m))]) [1, 2, 4] rfl ?_
                  refine G.ve (y := .int (nI (if ms_newsB s t m then 2 ^ m else 0))) (by first | rfl | (simp only [ms_newsB, c7, c100, c105, c110, ↓reduceIte, Bool.not_true, Bool.not_false, Bool.and_true, Bool.true_and, Bool.and_false, Bool.false_and, Bool.or_true, Bool.true_or, Bool.or_false, Bool.false_or, decide_true, decide_false, not_true_eq_false, not_false_eq_true, Bool.false_eq_true, Bool.true_eq_false]; done) | (simp only [ms_newsB, c7, c100, c105, c110, ↓reduceIte, Bool.not_true, Bool.not_false, Bool.and_true, Bool.true_and, Bool.and_false, Bool.false_and, Bool.or_true, Bool.true_or, Bool.or_false, Bool.false_or, decide_true, decide_false, not_true_eq_false, not_false_eq_true, Bool.false_eq_true, Bool.true_eq_false]; rfl) | (simp [ms_newsB, c7, c100, c105, c110]; done)) ?_
                  exact J120
                · refine G.iconst hX (v := 1) (by decide) dX4_newsOf_113 ?_
                  refine G.iload_n hX 4 rfl dX4_newsOf_114 ?_
                  refine G.ishl hX dX4_newsOf_115 ?_
                  refine G.ie (y := nI (2 ^ m)) (by exact shl1 m (by omega)) ?_
                  refine G.goto hX (tgt := 120) (by decide) dX4_newsOf_116 ?_
                  refine G.lvp (lv' := [(0, .ref (o 0)), (1, .int (nI t)), (3, .int (nI m))]) [1, 2, 4] rfl ?_
                  refine G.ve (y := .int (nI (if ms_newsB s t m then 2 ^ m else 0))) (by first | rfl | (simp only [ms_newsB, c7, c100, c105, c110, ↓reduceIte, Bool.not_true, Bool.not_false, Bool.and_true, Bool.true_and, Bool.and_false, Bool.false_and, Bool.or_true, Bool.true_or, Bool.or_false, Bool.false_or, decide_true, decide_false, not_true_eq_false, not_false_eq_true, Bool.false_eq_true, Bool.true_eq_false]; done) | (simp only [ms_newsB, c7, c100, c105, c110, ↓reduceIte, Bool.not_true, Bool.not_false, Bool.and_true, Bool.true_and, Bool.and_false, Bool.false_and, Bool.or_true, Bool.true_or, Bool.or_false, Bool.false_or, decide_true, decide_false, not_true_eq_false, not_false_eq_true, Bool.false_eq_true, Bool.true_eq_false]; rfl) | (simp [ms_newsB, c7, c100, c105, c110]; done)) ?_
                  exact J120
          refine G.aload_n hX 1 rfl dX4_newsOf_49 ?_
          refine G.iload_n hX 2 rfl dX4_newsOf_50 ?_
          refine G.iconst hX (v := 2) (by decide) dX4_newsOf_51 ?_
          refine G.idiv hX (by decide) dX4_newsOf_52 ?_
          refine G.ie (y := nI (t / 2)) (by exact pk_div (a := t) (d := 2) (by omega) (by omega) (by omega)) ?_
          refine G.vi hX (As := [.int (nI (t / 2))]) (st := []) (wr := []) (wf := [(o 0, moO o ik be so tp fr tq vl wr), (o 1, arI E 122 s)]) (q0 := 0) (ci := 4) rfl rfl (c_X4_isMet _ E (pl := t / 2) (o := o) (ik := ik) (be := be) (so := so) (tp := tp) (fr := fr) (tq := tq) (vl := vl) (wr := wr) (s := s) (h1 := by omega)) gX4_newsOf_X4_isMet cp_X4_isMet (by decide) [0, 1] [] [0, 1] ⟨rfl, rfl, by decide, rfl⟩ rfl rfl (Nat.le_of_ble_eq_true rfl) dX4_newsOf_53 ?_
          refine G.b_eq hX (tgt := 90) (by decide) dX4_newsOf_56 (fun c56 => ?_) (fun c56 => ?_)
          · refine G.iconst hX (v := 0) (by decide) dX4_newsOf_90 ?_
            refine G.lvp (lv' := [(0, .ref (o 0)), (1, .int (nI t)), (2, .int (nI (it (ms_newsS s t) m 0))), (3, .int (nI m)), (4, .int (bI (!(decide (t ≤ 1)) && ms_hear s t false && ms_told s (t - 2) m (ms_leans s (t - 2)))))]) [1, 2, 3, 4, 0] rfl ?_
            refine G.ie (y := bI (ms_met s (t / 2) && ms_hear s t true && ms_told s (t ^^^ 1) m (ms_nods s (t ^^^ 1)))) (by first | rfl | (simp only [bI, c7, c56, ↓reduceIte, Bool.not_true, Bool.not_false, Bool.and_true, Bool.true_and, Bool.and_false, Bool.false_and, Bool.or_true, Bool.true_or, Bool.or_false, Bool.false_or, decide_true, decide_false, not_true_eq_false, not_false_eq_true, Bool.false_eq_true, Bool.true_eq_false]; done) | (simp only [bI, c7, c56, ↓reduceIte, Bool.not_true, Bool.not_false, Bool.and_true, Bool.true_and, Bool.and_false, Bool.false_and, Bool.or_true, Bool.true_or, Bool.or_false, Bool.false_or, decide_true, decide_false, not_true_eq_false, not_false_eq_true, Bool.false_eq_true, Bool.true_eq_false]; rfl) | (simp [bI, c7, c56]; done)) ?_
            exact J91
          · refine G.aload_n hX 1 rfl dX4_newsOf_59 ?_
            refine G.iload_n hX 2 rfl dX4_newsOf_60 ?_
            refine G.iconst hX (v := 1) (by decide) dX4_newsOf_61 ?_
            refine G.vi hX (As := [.int (nI t), .int 1]) (st := []) (wr := []) (wf := [(o 0, moO o ik be so tp fr tq vl wr), (o 1, arI E 122 s)]) (q0 := 0) (ci := 4) rfl rfl (c_X4_isHearing _ E (t := t) (b := true) (o := o) (ik := ik) (be := be) (so := so) (tp := tp) (fr := fr) (tq := tq) (vl := vl) (wr := wr) (s := s) (h1 := by omega)) gX4_newsOf_X4_isHearing cp_X4_isHearing (by decide) [0, 1] [] [0, 1] ⟨rfl, rfl, by decide, rfl⟩ rfl rfl (Nat.le_of_ble_eq_true rfl) dX4_newsOf_62 ?_
            refine G.b_eq hX (tgt := 90) (by decide) dX4_newsOf_65 (fun c65 => ?_) (fun c65 => ?_)
            · refine G.iconst hX (v := 0) (by decide) dX4_newsOf_90 ?_
              refine G.lvp (lv' := [(0, .ref (o 0)), (1, .int (nI t)), (2, .int (nI (it (ms_newsS s t) m 0))), (3, .int (nI m)), (4, .int (bI (!(decide (t ≤ 1)) && ms_hear s t false && ms_told s (t - 2) m (ms_leans s (t - 2)))))]) [1, 2, 3, 4, 0] rfl ?_
              refine G.ie (y := bI (ms_met s (t / 2) && ms_hear s t true && ms_told s (t ^^^ 1) m (ms_nods s (t ^^^ 1)))) (by first | rfl | (simp only [bI, c7, c56, c65, ↓reduceIte, Bool.not_true, Bool.not_false, Bool.and_true, Bool.true_and, Bool.and_false, Bool.false_and, Bool.or_true, Bool.true_or, Bool.or_false, Bool.false_or, decide_true, decide_false, not_true_eq_false, not_false_eq_true, Bool.false_eq_true, Bool.true_eq_false]; done) | (simp only [bI, c7, c56, c65, ↓reduceIte, Bool.not_true, Bool.not_false, Bool.and_true, Bool.true_and, Bool.and_false, Bool.false_and, Bool.or_true, Bool.true_or, Bool.or_false, Bool.false_or, decide_true, decide_false, not_true_eq_false, not_false_eq_true, Bool.false_eq_true, Bool.true_eq_false]; rfl) | (simp [bI, c7, c56, c65]; done)) ?_
              exact J91
            · have hx1 := xor1_lt h1
              refine G.aload_n hX 1 rfl dX4_newsOf_68 ?_
              refine G.iload_n hX 2 rfl dX4_newsOf_69 ?_
              refine G.iconst hX (v := 1) (by decide) dX4_newsOf_70 ?_
              refine G.ixor hX dX4_newsOf_71 ?_
              refine G.ie (y := nI (t ^^^ 1)) (by exact nI_xor t 1) ?_
              refine G.iload_n hX 4 rfl dX4_newsOf_72 ?_
              refine G.aload_n hX 1 rfl dX4_newsOf_73 ?_
              refine G.iload_n hX 2 rfl dX4_newsOf_74 ?_
              refine G.iconst hX (v := 1) (by decide) dX4_newsOf_75 ?_
              refine G.ixor hX dX4_newsOf_76 ?_
              refine G.ie (y := nI (t ^^^ 1)) (by exact nI_xor t 1) ?_
              refine G.vi hX (As := [.int (nI (t ^^^ 1))]) (st := [.int (nI m), .int (nI (t ^^^ 1)), .ref (o 0)]) (wr := []) (wf := [(o 0, moO o ik be so tp fr tq vl wr), (o 1, arI E 122 s)]) (q0 := 0) (ci := 4) rfl rfl (c_X4_nodsOf _ E (t := t ^^^ 1) (o := o) (ik := ik) (be := be) (so := so) (tp := tp) (fr := fr) (tq := tq) (vl := vl) (wr := wr) (s := s) (h1 := by omega)) gX4_newsOf_X4_nodsOf cp_X4_nodsOf (by decide) [0, 1] [] [0, 1] ⟨rfl, rfl, by decide, rfl⟩ rfl rfl (Nat.le_of_ble_eq_true rfl) dX4_newsOf_77 ?_
              refine G.vi hX (As := [.int (nI (t ^^^ 1)), .int (nI m), .int (ms_nods s (t ^^^ 1))]) (st := []) (wr := []) (wf := [(o 0, moO o ik be so tp fr tq vl wr), (o 1, arI E 122 s)]) (q0 := 0) (ci := 4) rfl rfl (c_X4_isTold _ E (t := t ^^^ 1) (m := m) (w := ms_nods s (t ^^^ 1)) (o := o) (ik := ik) (be := be) (so := so) (tp := tp) (fr := fr) (tq := tq) (vl := vl) (wr := wr) (s := s) (h1 := by omega) (h2 := by omega)) gX4_newsOf_X4_isTold cp_X4_isTold (by decide) [0, 1] [] [0, 1] ⟨rfl, rfl, by decide, rfl⟩ rfl rfl (Nat.le_of_ble_eq_true rfl) dX4_newsOf_80 ?_
              refine G.b_eq hX (tgt := 90) (by decide) dX4_newsOf_83 (fun c83 => ?_) (fun c83 => ?_)
              · refine G.iconst hX (v := 0) (by decide) dX4_newsOf_90 ?_
                refine G.lvp (lv' := [(0, .ref (o 0)), (1, .int (nI t)), (2, .int (nI (it (ms_newsS s t) m 0))), (3, .int (nI m)), (4, .int (bI (!(decide (t ≤ 1)) && ms_hear s t false && ms_told s (t - 2) m (ms_leans s (t - 2)))))]) [1, 2, 3, 4, 0] rfl ?_
                refine G.ie (y := bI (ms_met s (t / 2) && ms_hear s t true && ms_told s (t ^^^ 1) m (ms_nods s (t ^^^ 1)))) (by first | rfl | (simp only [bI, c7, c56, c65, c83, ↓reduceIte, Bool.not_true, Bool.not_false, Bool.and_true, Bool.true_and, Bool.and_false, Bool.false_and, Bool.or_true, Bool.true_or, Bool.or_false, Bool.false_or, decide_true, decide_false, not_true_eq_false, not_false_eq_true, Bool.false_eq_true, Bool.true_eq_false]; done) | (simp only [bI, c7, c56, c65, c83, ↓reduceIte, Bool.not_true, Bool.not_false, Bool.and_true, Bool.true_and, Bool.and_false, Bool.false_and, Bool.or_true, Bool.true_or, Bool.or_false, Bool.false_or, decide_true, decide_false, not_true_eq_false, not_false_eq_true, Bool.false_eq_true, Bool.true_eq_false]; rfl) | (simp [bI, c7, c56, c65, c83]; done)) ?_
                exact J91
              · refine G.iconst hX (v := 1) (by decide) dX4_newsOf_86 ?_
                refine G.goto hX (tgt := 91) (by decide) dX4_newsOf_87 ?_
                refine G.lvp (lv' := [(0, .ref (o 0)), (1, .int (nI t)), (2, .int (nI (it (ms_newsS s t) m 0))), (3, .int (nI m)), (4, .int (bI (!(decide (t ≤ 1)) && ms_hear s t false && ms_told s (t - 2) m (ms_leans s (t - 2)))))]) [1, 2, 3, 4, 0] rfl ?_
                refine G.ie (y := bI (ms_met s (t / 2) && ms_hear s t true && ms_told s (t ^^^ 1) m (ms_nods s (t ^^^ 1)))) (by first | rfl | (simp only [bI, c7, c56, c65, c83, ↓reduceIte, Bool.not_true, Bool.not_false, Bool.and_true, Bool.true_and, Bool.and_false, Bool.false_and, Bool.or_true, Bool.true_or, Bool.or_false, Bool.false_or, decide_true, decide_false, not_true_eq_false, not_false_eq_true, Bool.false_eq_true, Bool.true_eq_false]; done) | (simp only [bI, c7, c56, c65, c83, ↓reduceIte, Bool.not_true, Bool.not_false, Bool.and_true, Bool.true_and, Bool.and_false, Bool.false_and, Bool.or_true, Bool.true_or, Bool.or_false, Bool.false_or, decide_true, decide_false, not_true_eq_false, not_false_eq_true, Bool.false_eq_true, Bool.true_eq_false]; rfl) | (simp [bI, c7, c56, c65, c83]; done)) ?_
                exact J91
        refine G.iload_n hX 1 rfl dX4_newsOf_10 ?_
        refine G.iconst hX (v := 1) (by decide) dX4_newsOf_11 ?_
        refine G.n_le hX (a := t) (b := 1) (tgt := 46) (by omega) (by omega) (by decide) dX4_newsOf_12 (fun c12 => ?_) (fun c12 => ?_)
        · refine G.iconst hX (v := 0) (by decide) dX4_newsOf_46 ?_
          refine G.ie (y := bI (!(decide (t ≤ 1)) && ms_hear s t false && ms_told s (t - 2) m (ms_leans s (t - 2)))) (by first | rfl | (simp only [bI, c7, c12, ↓reduceIte, Bool.not_true, Bool.not_false, Bool.and_true, Bool.true_and, Bool.and_false, Bool.false_and, Bool.or_true, Bool.true_or, Bool.or_false, Bool.false_or, decide_true, decide_false, not_true_eq_false, not_false_eq_true, Bool.false_eq_true, Bool.true_eq_false]; done) | (simp only [bI, c7, c12, ↓reduceIte, Bool.not_true, Bool.not_false, Bool.and_true, Bool.true_and, Bool.and_false, Bool.false_and, Bool.or_true, Bool.true_or, Bool.or_false, Bool.false_or, decide_true, decide_false, not_true_eq_false, not_false_eq_true, Bool.false_eq_true, Bool.true_eq_false]; rfl) | (simp [bI, c7, c12]; done)) ?_
          exact J47
        · refine G.aload_n hX 0 rfl dX4_newsOf_15 ?_
          refine G.iload_n hX 1 rfl dX4_newsOf_16 ?_
          refine G.iconst hX (v := 0) (by decide) dX4_newsOf_17 ?_
          refine G.vi hX (As := [.int (nI t), .int 0]) (st := []) (wr := []) (wf := [(o 0, moO o ik be so tp fr tq vl wr), (o 1, arI E 122 s)]) (q0 := 0) (ci := 4) rfl rfl (c_X4_isHearing _ E (t := t) (b := false) (o := o) (ik := ik) (be := be) (so := so) (tp := tp) (fr := fr) (tq := tq) (vl := vl) (wr := wr) (s := s) (h1 := by omega)) gX4_newsOf_X4_isHearing cp_X4_isHearing (by decide) [0, 1] [] [0, 1] ⟨rfl, rfl, by decide, rfl⟩ rfl rfl (Nat.le_of_ble_eq_true rfl) dX4_newsOf_18 ?_
          refine G.b_eq hX (tgt := 46) (by decide) dX4_newsOf_21 (fun c21 => ?_) (fun c21 => ?_)
          · refine G.iconst hX (v := 0) (by decide) dX4_newsOf_46 ?_
            refine G.ie (y := bI (!(decide (t ≤ 1)) && ms_hear s t false && ms_told s (t - 2) m (ms_leans s (t - 2)))) (by first | rfl | (simp only [bI, c7, c12, c21, ↓reduceIte, Bool.not_true, Bool.not_false, Bool.and_true, Bool.true_and, Bool.and_false, Bool.false_and, Bool.or_true, Bool.true_or, Bool.or_false, Bool.false_or, decide_true, decide_false, not_true_eq_false, not_false_eq_true, Bool.false_eq_true, Bool.true_eq_false]; done) | (simp only [bI, c7, c12, c21, ↓reduceIte, Bool.not_true, Bool.not_false, Bool.and_true, Bool.true_and, Bool.and_false, Bool.false_and, Bool.or_true, Bool.true_or, Bool.or_false, Bool.false_or, decide_true, decide_false, not_true_eq_false, not_false_eq_true, Bool.false_eq_true, Bool.true_eq_false]; rfl) | (simp [bI, c7, c12, c21]; done)) ?_
            exact J47
          · refine G.aload_n hX 0 rfl dX4_newsOf_24 ?_
            refine G.iload_n hX 1 rfl dX4_newsOf_25 ?_
            refine G.iconst hX (v := 2) (by decide) dX4_newsOf_26 ?_
            refine G.isub hX dX4_newsOf_27 ?_
            refine G.ie (pk_sub (a := t) (b := 2) (by omega)) ?_
            refine G.iload_n hX 3 rfl dX4_newsOf_28 ?_
            refine G.aload_n hX 0 rfl dX4_newsOf_29 ?_
            refine G.iload_n hX 1 rfl dX4_newsOf_30 ?_
            refine G.iconst hX (v := 2) (by decide) dX4_newsOf_31 ?_
            refine G.isub hX dX4_newsOf_32 ?_
            refine G.ie (pk_sub (a := t) (b := 2) (by omega)) ?_
            refine G.vi hX (As := [.int (nI (t - 2))]) (st := [.int (nI m), .int (nI (t - 2)), .ref (o 0)]) (wr := []) (wf := [(o 0, moO o ik be so tp fr tq vl wr), (o 1, arI E 122 s)]) (q0 := 0) (ci := 4) rfl rfl (c_X4_leansOf _ E (t := t - 2) (o := o) (ik := ik) (be := be) (so := so) (tp := tp) (fr := fr) (tq := tq) (vl := vl) (wr := wr) (s := s) (h1 := by omega)) gX4_newsOf_X4_leansOf cp_X4_leansOf (by decide) [0, 1] [] [0, 1] ⟨rfl, rfl, by decide, rfl⟩ rfl rfl (Nat.le_of_ble_eq_true rfl) dX4_newsOf_33 ?_
            refine G.vi hX (As := [.int (nI (t - 2)), .int (nI m), .int (ms_leans s (t - 2))]) (st := []) (wr := []) (wf := [(o 0, moO o ik be so tp fr tq vl wr), (o 1, arI E 122 s)]) (q0 := 0) (ci := 4) rfl rfl (c_X4_isTold _ E (t := t - 2) (m := m) (w := ms_leans s (t - 2)) (o := o) (ik := ik) (be := be) (so := so) (tp := tp) (fr := fr) (tq := tq) (vl := vl) (wr := wr) (s := s) (h1 := by omega) (h2 := by omega)) gX4_newsOf_X4_isTold cp_X4_isTold (by decide) [0, 1] [] [0, 1] ⟨rfl, rfl, by decide, rfl⟩ rfl rfl (Nat.le_of_ble_eq_true rfl) dX4_newsOf_36 ?_
            refine G.b_eq hX (tgt := 46) (by decide) dX4_newsOf_39 (fun c39 => ?_) (fun c39 => ?_)
            · refine G.iconst hX (v := 0) (by decide) dX4_newsOf_46 ?_
              refine G.ie (y := bI (!(decide (t ≤ 1)) && ms_hear s t false && ms_told s (t - 2) m (ms_leans s (t - 2)))) (by first | rfl | (simp only [bI, c7, c12, c21, c39, ↓reduceIte, Bool.not_true, Bool.not_false, Bool.and_true, Bool.true_and, Bool.and_false, Bool.false_and, Bool.or_true, Bool.true_or, Bool.or_false, Bool.false_or, decide_true, decide_false, not_true_eq_false, not_false_eq_true, Bool.false_eq_true, Bool.true_eq_false]; done) | (simp only [bI, c7, c12, c21, c39, ↓reduceIte, Bool.not_true, Bool.not_false, Bool.and_true, Bool.true_and, Bool.and_false, Bool.false_and, Bool.or_true, Bool.true_or, Bool.or_false, Bool.false_or, decide_true, decide_false, not_true_eq_false, not_false_eq_true, Bool.false_eq_true, Bool.true_eq_false]; rfl) | (simp [bI, c7, c12, c21, c39]; done)) ?_
              exact J47
            · refine G.iconst hX (v := 1) (by decide) dX4_newsOf_42 ?_
              refine G.goto hX (tgt := 47) (by decide) dX4_newsOf_43 ?_
              refine G.ie (y := bI (!(decide (t ≤ 1)) && ms_hear s t false && ms_told s (t - 2) m (ms_leans s (t - 2)))) (by first | rfl | (simp only [bI, c7, c12, c21, c39, ↓reduceIte, Bool.not_true, Bool.not_false, Bool.and_true, Bool.true_and, Bool.and_false, Bool.false_and, Bool.or_true, Bool.true_or, Bool.or_false, Bool.false_or, decide_true, decide_false, not_true_eq_false, not_false_eq_true, Bool.false_eq_true, Bool.true_eq_false]; done) | (simp only [bI, c7, c12, c21, c39, ↓reduceIte, Bool.not_true, Bool.not_false, Bool.and_true, Bool.true_and, Bool.and_false, Bool.false_and, Bool.or_true, Bool.true_or, Bool.or_false, Bool.false_or, decide_true, decide_false, not_true_eq_false, not_false_eq_true, Bool.false_eq_true, Bool.true_eq_false]; rfl) | (simp [bI, c7, c12, c21, c39]; done)) ?_
              exact J47
  refine G.lvp (lv' := [(0, .ref (o 0)), (1, .int (nI t)), (2, .int 0), (3, .int 0)]) [2, 3, 1, 0] rfl ?_
  refine G.lve (lv' := [(0, .ref (o 0)), (1, .int (nI t)), (2, .int (nI (it (ms_newsS s t) 0 0))), (3, .int (nI 0))]) (by rfl) ?_
  exact L4 9 0 (by omega) (by omega)
abbrev rmX4_learns : Room := { frames := 4, cells := 0, slots := 0, locals := 87 }
theorem cp_X4_learns : CP yX4_learns RX4 wsX4_learns 5 2 rmX4_learns := ⟨⟨_, _, _, rfl⟩, rfl, rfl, by decide +kernel⟩
theorem inc_X4_learns_4 : ∀ w ∈ u_ws RX4 TX4 19, w ∈ wsX4_learns := by decide +kernel
set_option maxHeartbeats 4000000 in
set_option maxRecDepth 100000 in
theorem c_X4_learns (l : Launch) (E : EV) (t : Nat) (k : Nat) (o : Nat → Nat) (ik : Int32) (be : Int32) (so : Int32) (tp : Int32) (fr : Int32) (tq : Int32) (vl : Int32) (wr : Int32) (s : Nat → Int32) (h1 : t < 12) (h2 : k < 256) : CI l yX4_learns wsX4_learns rmX4_learns E [.ref (o 0), .int (nI t), .int (nI k)] [(o 0, moO o ik be so tp fr tq vl wr), (o 1, arI E 122 s)] [(o 0, moO o ik be so tp fr tq vl wr), (o 1, arI E 122 ((ms_ln s t k).1))] (nI ((ms_ln s t k).2)) := by
  refine CI.of (own := RX4) (cc := cX4_learns) (nL := 5) (rt := (some .int)) (by decide) rfl rfl (Nat.le_of_ble_eq_true rfl) (fun X hX hQ => ?_)
  show G E X 5 0 [(0, .ref (o 0)), (1, .int (nI t)), (2, .int (nI k))] [] [(o 0, moO o ik be so tp fr tq vl wr), (o 1, arI E 122 s)]
  refine G.iconst hX (v := 0) (by decide) dX4_learns_0 ?_
  refine G.istore_n hX (lv' := [(3, .int 0), (0, .ref (o 0)), (1, .int (nI t)), (2, .int (nI k))]) rfl (by decide) rfl dX4_learns_1 ?_
  refine G.iconst hX (v := 0) (by decide) dX4_learns_2 ?_
  refine G.istore hX (lv' := [(4, .int 0), (3, .int 0), (0, .ref (o 0)), (1, .int (nI t)), (2, .int (nI k))]) (by decide) rfl dX4_learns_3 ?_
  have L5 : ∀ (n : Nat) (m : Nat), m ≤ 8 → 9 ≤ m + n → G E X 5 5 [(0, .ref (o 0)), (1, .int (nI t)), (2, .int (nI k)), (3, .int (nI ((it (ms_lS t k) m (s, 0)).2))), (4, .int (nI m))] [] [(o 0, moO o ik be so tp fr tq vl wr), (o 1, arI E 122 ((it (ms_lS t k) m (s, 0)).1))] := by
    intro n
    induction n with
    | zero => intro m hl5_0 hl5_1; exact absurd hl5_1 (by omega)
    | succ n ih5 =>
      intro m hl5_0 hl5_1
      refine G.iload hX 4 rfl dX4_learns_5 ?_
      refine G.bipush hX (v := 8) (by decide) dX4_learns_7 ?_
      refine G.n_ge hX (a := m) (b := 8) (tgt := 60) (by omega) (by omega) (by decide) dX4_learns_9 (fun c9 => ?_) (fun c9 => ?_)
      · refine G.iload_n hX 3 rfl dX4_learns_60 ?_
        exact G.iret hX hQ dX4_learns_61 (by obtain rfl : m = 8 := (by omega); rfl) (by obtain rfl : m = 8 := (by omega); rfl)
      · have J54 : G E X 5 54 [(0, .ref (o 0)), (1, .int (nI t)), (2, .int (nI k)), (3, .int (nI ((it (ms_lS t k) (m + 1) (s, 0)).2))), (4, .int (nI m))] [] [(o 0, moO o ik be so tp fr tq vl wr), (o 1, arI E 122 ((it (ms_lS t k) (m + 1) (s, 0)).1))] := by
          refine G.iinc hX (n := 1) (lv' := [(4, .int (nI (m + 1))), (0, .ref (o 0)), (1, .int (nI t)), (2, .int (nI k)), (3, .int (nI ((it (ms_lS t k) (m + 1) (s, 0)).2)))]) 4 rfl (inc_nI m 1 rfl) (by decide) rfl dX4_learns_54 ?_
          refine G.goto hX (tgt := 5) (by decide) dX4_learns_57 ?_
          refine G.lvp (lv' := [(0, .ref (o 0)), (1, .int (nI t)), (2, .int (nI k)), (3, .int (nI ((it (ms_lS t k) (m + 1) (s, 0)).2))), (4, .int (nI (m + 1)))]) [1, 2, 3, 4, 0] rfl ?_
          refine G.lve (lv' := [(0, .ref (o 0)), (1, .int (nI t)), (2, .int (nI k)), (3, .int (nI ((it (ms_lS t k) (m + 1) (s, 0)).2))), (4, .int (nI ((m + 1))))]) (by rfl) ?_
          exact ih5 (m + 1) (by omega) (by omega)
        refine G.iload_n hX 2 rfl dX4_learns_12 ?_
        refine G.iload hX 4 rfl dX4_learns_13 ?_
        refine G.ishr hX dX4_learns_15 ?_
        refine G.iconst hX (v := 1) (by decide) dX4_learns_16 ?_
        refine G.iand hX dX4_learns_17 ?_
        refine G.iconst hX (v := 1) (by decide) dX4_learns_18 ?_
        refine G.icmp_ne hX (tgt := 54) (by decide) dX4_learns_19 (fun c19 => ?_) (fun c19 => ?_)
        · refine G.lve (lv' := [(0, .ref (o 0)), (1, .int (nI t)), (2, .int (nI k)), (3, .int (nI ((it (ms_lS t k) (m + 1) (s, 0)).2))), (4, .int (nI m))]) (by have hb := bit_1 (k := k) (m := m) (by omega) (by omega); simp_all [it_s, ms_lS]) ?_
          refine G.we (ws' := [(o 0, moO o ik be so tp fr tq vl wr), (o 1, arI E 122 ((it (ms_lS t k) (m + 1) (s, 0)).1))]) (by have hb := bit_1 (k := k) (m := m) (by omega) (by omega); simp_all [it_s, ms_lS]) ?_
          exact J54
        · refine G.aload_n hX 0 rfl dX4_learns_22 ?_
          refine G.iload_n hX 1 rfl dX4_learns_23 ?_
          refine G.iload hX 4 rfl dX4_learns_24 ?_
          refine G.vi hX (As := [.int (nI t), .int (nI m)]) (st := []) (wr := []) (wf := [(o 0, moO o ik be so tp fr tq vl wr), (o 1, arI E 122 ((it (ms_lS t k) m (s, 0)).1))]) (q0 := 0) (ci := 4) rfl rfl (c_X4_isKnown _ E (t := t) (m := m) (o := o) (ik := ik) (be := be) (so := so) (tp := tp) (fr := fr) (tq := tq) (vl := vl) (wr := wr) (s := (it (ms_lS t k) m (s, 0)).1) (h1 := by omega) (h2 := by omega)) gX4_learns_X4_isKnown cp_X4_isKnown (by decide) [0, 1] [] [0, 1] ⟨rfl, rfl, by decide, rfl⟩ rfl rfl (Nat.le_of_ble_eq_true rfl) dX4_learns_26 ?_
          refine G.b_ne hX (tgt := 54) (by decide) dX4_learns_29 (fun c29 => ?_) (fun c29 => ?_)
          · refine G.lve (lv' := [(0, .ref (o 0)), (1, .int (nI t)), (2, .int (nI k)), (3, .int (nI ((it (ms_lS t k) (m + 1) (s, 0)).2))), (4, .int (nI m))]) (by have hb := bit_1 (k := k) (m := m) (by omega) (by omega); simp_all [it_s, ms_lS]) ?_
            refine G.we (ws' := [(o 0, moO o ik be so tp fr tq vl wr), (o 1, arI E 122 ((it (ms_lS t k) (m + 1) (s, 0)).1))]) (by have hb := bit_1 (k := k) (m := m) (by omega) (by omega); simp_all [it_s, ms_lS]) ?_
            exact J54
          · refine G.aload_n hX 0 rfl dX4_learns_32 ?_
            refine G.get hX inc_X4_learns_4 0 rfl rfl 0 (by decide) (by decide +kernel) rfl dX4_learns_33 ?_
            refine G.iload_n hX 1 rfl dX4_learns_36 ?_
            refine G.iconst hX (v := 2) (by decide) dX4_learns_37 ?_
            refine G.iload hX 4 rfl dX4_learns_38 ?_
            refine G.iadd hX dX4_learns_40 ?_
            refine G.ie (nI_add 2 m) ?_
            refine G.s0i hX (As := [.int (nI t), .int (nI (2 + m))]) (st := [.ref (o 1)]) (c_X4_spotOf _ E (t := t) (w := 2 + m) ) gX4_learns_X4_spotOf cp_X4_spotOf (by decide) rfl rfl (Nat.le_of_ble_eq_true rfl) dX4_learns_41 ?_
            refine G.aload_n hX 0 rfl dX4_learns_44 ?_
            refine G.get hX inc_X4_learns_4 0 rfl rfl 0 (by decide) (by decide +kernel) rfl dX4_learns_45 ?_
            refine G.iconst hX (v := 0) (by decide) dX4_learns_48 ?_
            refine G.iald hX (j := 0) 1 rfl (by omega) (by omega) dX4_learns_49 ?_
            refine G.iast hX (j := 2 + 10 * t + (2 + m)) (ws' := [(o 0, moO o ik be so tp fr tq vl wr), (o 1, arI E 122 (upd ((it (ms_lS t k) m (s, 0)).1) (2 + 10 * t + (2 + m)) (((it (ms_lS t k) m (s, 0)).1) 0)))]) 1 rfl (by omega) (by omega) rfl rfl dX4_learns_50 ?_
            refine G.iinc hX (n := 1) (lv' := [(3, .int (nI (((it (ms_lS t k) m (s, 0)).2) + 1))), (0, .ref (o 0)), (1, .int (nI t)), (2, .int (nI k)), (4, .int (nI m))]) 3 rfl (inc_nI ((it (ms_lS t k) m (s, 0)).2) 1 rfl) (by decide) rfl dX4_learns_51 ?_
            refine G.lvp (lv' := [(0, .ref (o 0)), (1, .int (nI t)), (2, .int (nI k)), (3, .int (nI (((it (ms_lS t k) m (s, 0)).2) + 1))), (4, .int (nI m))]) [1, 2, 3, 0, 4] rfl ?_
            refine G.lve (lv' := [(0, .ref (o 0)), (1, .int (nI t)), (2, .int (nI k)), (3, .int (nI ((it (ms_lS t k) (m + 1) (s, 0)).2))), (4, .int (nI m))]) (by have hb := bit_1 (k := k) (m := m) (by omega) (by omega); simp_all [it_s, ms_lS]) ?_
            refine G.we (ws' := [(o 0, moO o ik be so tp fr tq vl wr), (o 1, arI E 122 ((it (ms_lS t k) (m + 1) (s, 0)).1))]) (by have hb := bit_1 (k := k) (m := m) (by omega) (by omega); simp_all [it_s, ms_lS]) ?_
            exact J54
  refine G.lvp (lv' := [(0, .ref (o 0)), (1, .int (nI t)), (2, .int (nI k)), (3, .int 0), (4, .int 0)]) [2, 3, 4, 1, 0] rfl ?_
  refine G.lve (lv' := [(0, .ref (o 0)), (1, .int (nI t)), (2, .int (nI k)), (3, .int (nI ((it (ms_lS t k) 0 (s, 0)).2))), (4, .int (nI 0))]) (by rfl) ?_
  refine G.we (ws' := [(o 0, moO o ik be so tp fr tq vl wr), (o 1, arI E 122 ((it (ms_lS t k) 0 (s, 0)).1))]) (by rfl) ?_
  exact L5 9 0 (by omega) (by omega)
