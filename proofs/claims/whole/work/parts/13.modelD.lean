abbrev rmX4_feed : Room := { frames := 1, cells := 0, slots := 0, locals := 25 }
theorem cp_X4_feed : CP yX4_feed RX4 wsX4_feed 4 2 rmX4_feed := ⟨⟨_, _, _, rfl⟩, rfl, rfl, by decide +kernel⟩
theorem inc_X4_feed_4 : ∀ w ∈ u_ws RX4 TX4 19, w ∈ wsX4_feed := by decide +kernel
set_option maxHeartbeats 4000000 in
set_option maxRecDepth 100000 in
theorem c_X4_feedbad (l : Launch) (E : EV) (b : Int32) (y : Int32) (o : Nat → Nat) (ik : Int32) (be : Int32) (so : Int32) (tp : Int32) (fr : Int32) (tq : Int32) (vl : Int32) (wr : Int32) (stt : Nat → Int32) (h1 : inI y 1 4 = false) : CI l yX4_feed wsX4_feed rmX4_feed E [.ref (o 0), .int b, .int y] [(o 0, moO o ik be so tp fr tq vl wr), (o 5, arI E 7 stt)] [(o 0, moO o ik be so tp fr tq vl wr), (o 5, arI E 7 (upd stt 0 (stt 0 + 1)))] ((-1000000001)) := by
  refine CI.of (own := RX4) (cc := cX4_feed) (nL := 4) (rt := (some .int)) (by decide) rfl rfl (Nat.le_of_ble_eq_true rfl) (fun X hX hQ => ?_)
  show G E X 4 0 [(0, .ref (o 0)), (1, .int b), (2, .int y)] [] [(o 0, moO o ik be so tp fr tq vl wr), (o 5, arI E 7 stt)]
  refine G.iload_n hX 2 rfl dX4_feed_0 ?_
  refine G.i2l hX dX4_feed_1 ?_
  refine G.lconst hX (v := 1) (by decide) dX4_feed_2 ?_
  refine G.ldc2 hX (v := 4) (by decide +kernel) dX4_feed_3 ?_
  refine G.s0i hX (As := [.long y.toInt64, .long 1, .long 4]) (st := []) (c_X4_in _ E (v := y.toInt64) (lo := 1) (hi := 4) ) gX4_feed_X4_in cp_X4_in (by decide) rfl rfl (Nat.le_of_ble_eq_true rfl) dX4_feed_6 ?_
  refine G.ie (y := bI (inI y 1 4)) rfl ?_
  refine G.b_ne hX (tgt := 19) (by decide) dX4_feed_9 (fun c9 => ?_) (fun c9 => ?_)
  · exact absurd h1 (by simp [c9])
  · refine G.aload_n hX 0 rfl dX4_feed_12 ?_
    refine G.ldc hX (v := -1000000001) (by decide +kernel) dX4_feed_13 ?_
    refine G.vi hX (As := [.int ((-1000000001))]) (st := []) (wr := []) (wf := [(o 0, moO o ik be so tp fr tq vl wr), (o 5, arI E 7 (upd stt 0 (stt 0 + 1)))]) (q0 := 0) (ci := 4) rfl rfl (c_X4_finds0 _ E (o := o) (ik := ik) (be := be) (so := so) (tp := tp) (fr := fr) (tq := tq) (vl := vl) (wr := wr) (stt := stt) ) gX4_feed_X4_finds cp_X4_finds (by decide) [0, 1] [] [0, 1] ⟨rfl, rfl, by decide, rfl⟩ rfl rfl (Nat.le_of_ble_eq_true rfl) dX4_feed_15 ?_
    exact G.iret hX hQ dX4_feed_18 (by rfl) (by rfl)
set_option maxHeartbeats 4000000 in
set_option maxRecDepth 100000 in
theorem c_X4_feedfull (l : Launch) (E : EV) (b : Int32) (n0 : Nat) (c : Nat) (o : Nat → Nat) (ik : Int32) (be : Int32) (so : Int32) (fr : Int32) (tq : Int32) (vl : Int32) (wr : Int32) (stt : Nat → Int32) (h1 : 1 ≤ n0) (h2 : n0 ≤ 4) (h3 : c ≤ 120) (h4 : 120 < c + n0) : CI l yX4_feed wsX4_feed rmX4_feed E [.ref (o 0), .int b, .int (nI n0)] [(o 0, moO o ik be so (nI c) fr tq vl wr), (o 5, arI E 7 stt)] [(o 0, moO o ik be so (nI c) fr tq vl wr), (o 5, arI E 7 (upd stt 1 (stt 1 + 1)))] ((-1000000002)) := by
  refine CI.of (own := RX4) (cc := cX4_feed) (nL := 4) (rt := (some .int)) (by decide) rfl rfl (Nat.le_of_ble_eq_true rfl) (fun X hX hQ => ?_)
  show G E X 4 0 [(0, .ref (o 0)), (1, .int b), (2, .int (nI n0))] [] [(o 0, moO o ik be so (nI c) fr tq vl wr), (o 5, arI E 7 stt)]
  refine G.iload_n hX 2 rfl dX4_feed_0 ?_
  refine G.i2l hX dX4_feed_1 ?_
  refine G.le (y := lN n0) (nI_l (by omega)) ?_
  refine G.lconst hX (v := 1) (by decide) dX4_feed_2 ?_
  refine G.ldc2 hX (v := 4) (by decide +kernel) dX4_feed_3 ?_
  refine G.s0i hX (As := [.long (lN n0), .long 1, .long 4]) (st := []) (c_X4_inn _ E (v := n0) (lo := 1) (hi := 4) (h1 := by omega) (h2 := by omega) (h3 := by omega)) gX4_feed_X4_in cp_X4_in (by decide) rfl rfl (Nat.le_of_ble_eq_true rfl) dX4_feed_6 ?_
  refine G.if_ne hX (tgt := 19) (by decide) dX4_feed_9 (fun _ => ?_) (fun c9 => absurd c9 (by decide))
  refine G.aload_n hX 0 rfl dX4_feed_19 ?_
  refine G.get hX inc_X4_feed_4 0 rfl rfl 10 (by decide) (by decide +kernel) rfl dX4_feed_20 ?_
  refine G.iload_n hX 2 rfl dX4_feed_23 ?_
  refine G.iadd hX dX4_feed_24 ?_
  refine G.ie (nI_add c n0) ?_
  refine G.bipush hX (v := 120) (by decide) dX4_feed_25 ?_
  refine G.n_le hX (a := c + n0) (b := 120) (tgt := 37) (by omega) (by omega) (by decide) dX4_feed_27 (fun c27 => ?_) (fun c27 => ?_)
  · exact absurd h4 (by omega)
  · refine G.aload_n hX 0 rfl dX4_feed_30 ?_
    refine G.ldc hX (v := -1000000002) (by decide +kernel) dX4_feed_31 ?_
    refine G.vi hX (As := [.int ((-1000000002))]) (st := []) (wr := []) (wf := [(o 0, moO o ik be so (nI c) fr tq vl wr), (o 5, arI E 7 (upd stt 1 (stt 1 + 1)))]) (q0 := 0) (ci := 4) rfl rfl (c_X4_finds1 _ E (o := o) (ik := ik) (be := be) (so := so) (tp := nI c) (fr := fr) (tq := tq) (vl := vl) (wr := wr) (stt := stt) ) gX4_feed_X4_finds cp_X4_finds (by decide) [0, 1] [] [0, 1] ⟨rfl, rfl, by decide, rfl⟩ rfl rfl (Nat.le_of_ble_eq_true rfl) dX4_feed_33 ?_
    exact G.iret hX hQ dX4_feed_36 (by rfl) (by rfl)
set_option maxHeartbeats 4000000 in
set_option maxRecDepth 100000 in
theorem c_X4_feedok (l : Launch) (E : EV) (b : Int32) (n0 : Nat) (c : Nat) (o : Nat → Nat) (ik : Int32) (be : Int32) (so : Int32) (fr : Int32) (tq : Int32) (vl : Int32) (wr : Int32) (tap : Nat → Int32) (h1 : 1 ≤ n0) (h2 : n0 ≤ 4) (h3 : c + n0 ≤ 120) : CI l yX4_feed wsX4_feed rmX4_feed E [.ref (o 0), .int b, .int (nI n0)] [(o 0, moO o ik be so (nI c) fr tq vl wr), (o 7, arI E 120 tap)] [(o 0, moO o ik be so (nI (c + n0)) fr tq vl wr), (o 7, arI E 120 (it (ms_feS b n0 c) n0 tap))] (nI (c + n0)) := by
  refine CI.of (own := RX4) (cc := cX4_feed) (nL := 4) (rt := (some .int)) (by decide) rfl rfl (Nat.le_of_ble_eq_true rfl) (fun X hX hQ => ?_)
  show G E X 4 0 [(0, .ref (o 0)), (1, .int b), (2, .int (nI n0))] [] [(o 0, moO o ik be so (nI c) fr tq vl wr), (o 7, arI E 120 tap)]
  refine G.iload_n hX 2 rfl dX4_feed_0 ?_
  refine G.i2l hX dX4_feed_1 ?_
  refine G.le (y := lN n0) (nI_l (by omega)) ?_
  refine G.lconst hX (v := 1) (by decide) dX4_feed_2 ?_
  refine G.ldc2 hX (v := 4) (by decide +kernel) dX4_feed_3 ?_
  refine G.s0i hX (As := [.long (lN n0), .long 1, .long 4]) (st := []) (c_X4_inn _ E (v := n0) (lo := 1) (hi := 4) (h1 := by omega) (h2 := by omega) (h3 := by omega)) gX4_feed_X4_in cp_X4_in (by decide) rfl rfl (Nat.le_of_ble_eq_true rfl) dX4_feed_6 ?_
  refine G.if_ne hX (tgt := 19) (by decide) dX4_feed_9 (fun _ => ?_) (fun c9 => absurd c9 (by decide))
  refine G.aload_n hX 0 rfl dX4_feed_19 ?_
  refine G.get hX inc_X4_feed_4 0 rfl rfl 10 (by decide) (by decide +kernel) rfl dX4_feed_20 ?_
  refine G.iload_n hX 2 rfl dX4_feed_23 ?_
  refine G.iadd hX dX4_feed_24 ?_
  refine G.ie (nI_add c n0) ?_
  refine G.bipush hX (v := 120) (by decide) dX4_feed_25 ?_
  refine G.n_le hX (a := c + n0) (b := 120) (tgt := 37) (by omega) (by omega) (by decide) dX4_feed_27 (fun c27 => ?_) (fun c27 => ?_)
  · refine G.iload_n hX 2 rfl dX4_feed_37 ?_
    refine G.iconst hX (v := 1) (by decide) dX4_feed_38 ?_
    refine G.isub hX dX4_feed_39 ?_
    refine G.istore_n hX (lv' := [(3, .int ((nI n0) - 1)), (0, .ref (o 0)), (1, .int b), (2, .int (nI n0))]) rfl (by decide) rfl dX4_feed_40 ?_
    have L41 : ∀ (n : Nat) (i : Nat), i ≤ n0 → n0 + 1 ≤ i + n → G E X 4 41 [(0, .ref (o 0)), (1, .int b), (2, .int (nI n0)), (3, .int (nI (n0 - i) - 1))] [] [(o 0, moO o ik be so (nI (c + i)) fr tq vl wr), (o 7, arI E 120 (it (ms_feS b n0 c) i tap))] := by
      intro n
      induction n with
      | zero => intro i hl41_0 hl41_1; exact absurd hl41_1 (by omega)
      | succ n ih41 =>
        intro i hl41_0 hl41_1
        refine G.iload_n hX 3 rfl dX4_feed_41 ?_
        refine G.if_lt hX (tgt := 80) (by decide) dX4_feed_42 (fun c42 => ?_) (fun c42 => ?_)
        · obtain rfl : i = n0 := by rcases Nat.lt_or_ge i n0 with q | q; exact absurd c42 (by rw [prd (by omega)]; exact nI_pos (by omega)); omega
          refine G.aload_n hX 0 rfl dX4_feed_80 ?_
          refine G.get hX inc_X4_feed_4 0 rfl rfl 10 (by decide) (by decide +kernel) rfl dX4_feed_81 ?_
          exact G.iret hX hQ dX4_feed_84 (by rfl) (by rfl)
        · have hin : i < n0 := by rcases Nat.lt_or_ge i n0 with q | q; exact q; exact absurd (by have e : n0 - i = 0 := (by omega); rw [e]; decide) c42
          refine G.aload_n hX 0 rfl dX4_feed_45 ?_
          refine G.get hX inc_X4_feed_4 0 rfl rfl 9 (by decide) (by decide +kernel) rfl dX4_feed_46 ?_
          refine G.aload_n hX 0 rfl dX4_feed_49 ?_
          refine G.get hX inc_X4_feed_4 0 rfl rfl 10 (by decide) (by decide +kernel) rfl dX4_feed_50 ?_
          refine G.iload_n hX 1 rfl dX4_feed_53 ?_
          refine G.bipush hX (v := 8) (by decide) dX4_feed_54 ?_
          refine G.iload_n hX 3 rfl dX4_feed_56 ?_
          refine G.ie (y := nI (n0 - i - 1)) (by exact prd (by omega)) ?_
          refine G.imul hX dX4_feed_57 ?_
          refine G.ie (pk_mul 8 (n0 - i - 1)) ?_
          refine G.ishr hX dX4_feed_58 ?_
          refine G.sipush hX (v := 255) (by decide) dX4_feed_59 ?_
          refine G.iand hX dX4_feed_62 ?_
          refine G.iast hX (j := c + i) (ws' := [(o 0, moO o ik be so (nI (c + i)) fr tq vl wr), (o 7, arI E 120 (upd (it (ms_feS b n0 c) i tap) (c + i) ((b >>> ((nI (8 * (n0 - i - 1))) &&& 31)) &&& 255)))]) 1 rfl (by omega) (by omega) rfl rfl dX4_feed_63 ?_
          refine G.aload_n hX 0 rfl dX4_feed_64 ?_
          refine G.dup hX rfl dX4_feed_65 ?_
          refine G.get hX inc_X4_feed_4 0 rfl rfl 10 (by decide) (by decide +kernel) rfl dX4_feed_66 ?_
          refine G.iconst hX (v := 1) (by decide) dX4_feed_69 ?_
          refine G.iadd hX dX4_feed_70 ?_
          refine G.ie (nI_add (c + i) 1) ?_
          refine G.put hX (ws' := [(o 0, moO o ik be so (nI ((c + i) + 1)) fr tq vl wr), (o 7, arI E 120 (upd (it (ms_feS b n0 c) i tap) (c + i) ((b >>> ((nI (8 * (n0 - i - 1))) &&& 31)) &&& 255)))]) inc_X4_feed_4 tyX4 tyX4_ok nmX4 0 rfl rfl 10 (by decide) (by decide +kernel) rfl (tyX4_ok 10 (by decide)) rfl rfl (Nat.le_of_ble_eq_true rfl) rfl rfl dX4_feed_71 ?_
          refine G.iinc hX (n := -1) (lv' := [(3, .int (nI (n0 - (i + 1)) - 1)), (0, .ref (o 0)), (1, .int b), (2, .int (nI n0))]) 3 rfl (dec1 hin) (by decide) rfl dX4_feed_74 ?_
          refine G.goto hX (tgt := 41) (by decide) dX4_feed_77 ?_
          refine G.lvp (lv' := [(0, .ref (o 0)), (1, .int b), (2, .int (nI n0)), (3, .int (nI (n0 - (i + 1)) - 1))]) [1, 2, 3, 0] rfl ?_
          refine G.we (ws' := [(o 0, moO o ik be so (nI (c + (i + 1))) fr tq vl wr), (o 7, arI E 120 (it (ms_feS b n0 c) (i + 1) tap))]) (by rfl) ?_
          exact ih41 (i + 1) (by omega) (by omega)
    refine G.lvp (lv' := [(0, .ref (o 0)), (1, .int b), (2, .int (nI n0)), (3, .int ((nI n0) - 1))]) [1, 2, 3, 0] rfl ?_
    refine G.lve (lv' := [(0, .ref (o 0)), (1, .int b), (2, .int (nI n0)), (3, .int (nI (n0 - 0) - 1))]) (by rfl) ?_
    refine G.we (ws' := [(o 0, moO o ik be so (nI c) fr tq vl wr), (o 7, arI E 120 (it (ms_feS b n0 c) 0 tap))]) (by rfl) ?_
    exact L41 (n0 + 1) 0 (by omega) (by omega)
  · exact absurd h3 (by omega)
abbrev rmX4_wipe : Room := { frames := 0, cells := 0, slots := 0, locals := 0 }
theorem cp_X4_wipe : CP yX4_wipe RX4 wsX4_wipe 2 0 rmX4_wipe := ⟨⟨_, _, _, rfl⟩, rfl, rfl, by decide +kernel⟩
theorem inc_X4_wipe_4 : ∀ w ∈ u_ws RX4 TX4 19, w ∈ wsX4_wipe := by decide +kernel
set_option maxHeartbeats 4000000 in
set_option maxRecDepth 100000 in
theorem c_X4_wipe (l : Launch) (E : EV) (o : Nat → Nat) (ik : Int32) (be : Int32) (so : Int32) (tp : Int32) (fr : Int32) (tq : Int32) (vl : Int32) (wr : Int32)  : CI l yX4_wipe wsX4_wipe rmX4_wipe E [.ref (o 0)] [(o 0, moO o ik be so tp fr tq vl wr)] [(o 0, moO o ik be so 0 fr tq vl wr)] tp := by
  refine CI.of (own := RX4) (cc := cX4_wipe) (nL := 2) (rt := (some .int)) (by decide) rfl rfl (Nat.le_of_ble_eq_true rfl) (fun X hX hQ => ?_)
  show G E X 2 0 [(0, .ref (o 0))] [] [(o 0, moO o ik be so tp fr tq vl wr)]
  refine G.aload_n hX 0 rfl dX4_wipe_0 ?_
  refine G.get hX inc_X4_wipe_4 0 rfl rfl 10 (by decide) (by decide +kernel) rfl dX4_wipe_1 ?_
  refine G.istore_n hX (lv' := [(1, .int tp), (0, .ref (o 0))]) rfl (by decide) rfl dX4_wipe_4 ?_
  refine G.aload_n hX 1 rfl dX4_wipe_5 ?_
  refine G.iconst hX (v := 0) (by decide) dX4_wipe_6 ?_
  refine G.put hX (ws' := [(o 0, moO o ik be so 0 fr tq vl wr)]) inc_X4_wipe_4 tyX4 tyX4_ok nmX4 0 rfl rfl 10 (by decide) (by decide +kernel) rfl (tyX4_ok 10 (by decide)) rfl rfl (Nat.le_of_ble_eq_true rfl) rfl rfl dX4_wipe_7 ?_
  refine G.iload_n hX 0 rfl dX4_wipe_10 ?_
  exact G.iret hX hQ dX4_wipe_11 (by rfl) (by rfl)
abbrev rmX4_narrowed : Room := { frames := 0, cells := 0, slots := 0, locals := 0 }
theorem cp_X4_narrowed : CP yX4_narrowed RX4 wsX4_narrowed 3 2 rmX4_narrowed := ⟨⟨_, _, _, rfl⟩, rfl, rfl, by decide +kernel⟩
set_option maxHeartbeats 4000000 in
set_option maxRecDepth 100000 in
theorem c_X4_narrowed (l : Launch) (E : EV) (b : Int32) (v : Int64)  : CL l yX4_narrowed wsX4_narrowed rmX4_narrowed E [.int b, .long v] [] [] (nrw b v) := by
  refine CL.of (own := RX4) (cc := cX4_narrowed) (nL := 3) (rt := (some .long)) (by decide) rfl rfl (Nat.le_of_ble_eq_true rfl) (fun X hX hQ => ?_)
  show G E X 3 0 [(0, .int b), (1, .long v)] [] []
  refine G.iload_n hX 0 rfl dX4_narrowed_0 ?_
  refine G.bipush hX (v := 8) (by decide) dX4_narrowed_1 ?_
  refine G.icmp_ne hX (tgt := 13) (by decide) dX4_narrowed_3 (fun c3 => ?_) (fun c3 => ?_)
  · refine G.iload_n hX 0 rfl dX4_narrowed_13 ?_
    refine G.bipush hX (v := 16) (by decide) dX4_narrowed_14 ?_
    refine G.icmp_ne hX (tgt := 26) (by decide) dX4_narrowed_16 (fun c16 => ?_) (fun c16 => ?_)
    · refine G.lload_n hX 1 rfl dX4_narrowed_26 ?_
      exact G.lret hX hQ dX4_narrowed_27 (by first | rfl | (simp only [nrw, c3, c16, ↓reduceIte, Bool.not_true, Bool.not_false, Bool.and_true, Bool.true_and, Bool.and_false, Bool.false_and, Bool.or_true, Bool.true_or, Bool.or_false, Bool.false_or, decide_true, decide_false, not_true_eq_false, not_false_eq_true, Bool.false_eq_true, Bool.true_eq_false]; done) | (simp only [nrw, c3, c16, ↓reduceIte, Bool.not_true, Bool.not_false, Bool.and_true, Bool.true_and, Bool.and_false, Bool.false_and, Bool.or_true, Bool.true_or, Bool.or_false, Bool.false_or, decide_true, decide_false, not_true_eq_false, not_false_eq_true, Bool.false_eq_true, Bool.true_eq_false]; rfl) | (simp [nrw, c3, c16]; done)) (by rfl)
    · refine G.lload_n hX 1 rfl dX4_narrowed_19 ?_
      refine G.l2i hX dX4_narrowed_20 ?_
      refine G.i2s hX dX4_narrowed_21 ?_
      refine G.i2l hX dX4_narrowed_22 ?_
      refine G.goto hX (tgt := 27) (by decide) dX4_narrowed_23 ?_
      exact G.lret hX hQ dX4_narrowed_27 (by first | rfl | (simp only [nrw, c3, c16, ↓reduceIte, Bool.not_true, Bool.not_false, Bool.and_true, Bool.true_and, Bool.and_false, Bool.false_and, Bool.or_true, Bool.true_or, Bool.or_false, Bool.false_or, decide_true, decide_false, not_true_eq_false, not_false_eq_true, Bool.false_eq_true, Bool.true_eq_false]; done) | (simp only [nrw, c3, c16, ↓reduceIte, Bool.not_true, Bool.not_false, Bool.and_true, Bool.true_and, Bool.and_false, Bool.false_and, Bool.or_true, Bool.true_or, Bool.or_false, Bool.false_or, decide_true, decide_false, not_true_eq_false, not_false_eq_true, Bool.false_eq_true, Bool.true_eq_false]; rfl) | (simp [nrw, c3, c16]; done)) (by rfl)
  · refine G.lload_n hX 1 rfl dX4_narrowed_6 ?_
    refine G.l2i hX dX4_narrowed_7 ?_
    refine G.i2b hX dX4_narrowed_8 ?_
    refine G.i2l hX dX4_narrowed_9 ?_
    refine G.goto hX (tgt := 27) (by decide) dX4_narrowed_10 ?_
    exact G.lret hX hQ dX4_narrowed_27 (by first | rfl | (simp only [nrw, c3, ↓reduceIte, Bool.not_true, Bool.not_false, Bool.and_true, Bool.true_and, Bool.and_false, Bool.false_and, Bool.or_true, Bool.true_or, Bool.or_false, Bool.false_or, decide_true, decide_false, not_true_eq_false, not_false_eq_true, Bool.false_eq_true, Bool.true_eq_false]; done) | (simp only [nrw, c3, ↓reduceIte, Bool.not_true, Bool.not_false, Bool.and_true, Bool.true_and, Bool.and_false, Bool.false_and, Bool.or_true, Bool.true_or, Bool.or_false, Bool.false_or, decide_true, decide_false, not_true_eq_false, not_false_eq_true, Bool.false_eq_true, Bool.true_eq_false]; rfl) | (simp [nrw, c3]; done)) (by rfl)
abbrev rmX4_wrongSheet : Room := { frames := 2, cells := 0, slots := 0, locals := 45 }
theorem cp_X4_wrongSheet : CP yX4_wrongSheet RX4 wsX4_wrongSheet 2 1 rmX4_wrongSheet := ⟨⟨_, _, _, rfl⟩, rfl, rfl, by decide +kernel⟩
theorem inc_X4_wrongSheet_4 : ∀ w ∈ u_ws RX4 TX4 19, w ∈ wsX4_wrongSheet := by decide +kernel
set_option maxHeartbeats 4000000 in
set_option maxRecDepth 100000 in
theorem c_X4_wrongSheetbad (l : Launch) (E : EV) (x : Int32) (o : Nat → Nat) (ik : Int32) (be : Int32) (so : Int32) (tp : Int32) (fr : Int32) (tq : Int32) (vl : Int32) (wr : Int32) (bo : Nat → Int32) (h1 : inI x 0 3 = false) : CI l yX4_wrongSheet wsX4_wrongSheet rmX4_wrongSheet E [.ref (o 0), .int x] [(o 0, moO o ik be so tp fr tq vl wr), (o 8, arI E 4 bo)] [(o 0, moO o ik be so tp fr tq vl wr), (o 8, arI E 4 bo)] ((-1000000001)) := by
  refine CI.of (own := RX4) (cc := cX4_wrongSheet) (nL := 2) (rt := (some .int)) (by decide) rfl rfl (Nat.le_of_ble_eq_true rfl) (fun X hX hQ => ?_)
  show G E X 2 0 [(0, .ref (o 0)), (1, .int x)] [] [(o 0, moO o ik be so tp fr tq vl wr), (o 8, arI E 4 bo)]
  refine G.iload_n hX 1 rfl dX4_wrongSheet_0 ?_
  refine G.s0i hX (As := [.int x]) (st := []) (c_X4_isOne _ E (x := x) ) gX4_wrongSheet_X4_isOne cp_X4_isOne (by decide) rfl rfl (Nat.le_of_ble_eq_true rfl) dX4_wrongSheet_1 ?_
  refine G.b_ne hX (tgt := 12) (by decide) dX4_wrongSheet_4 (fun c4 => ?_) (fun c4 => ?_)
  · exact absurd h1 (by simp [c4])
  · refine G.ldc hX (v := -1000000001) (by decide +kernel) dX4_wrongSheet_7 ?_
    refine G.goto hX (tgt := 28) (by decide) dX4_wrongSheet_9 ?_
    exact G.iret hX hQ dX4_wrongSheet_28 (by rfl) (by rfl)
set_option maxHeartbeats 4000000 in
set_option maxRecDepth 100000 in
theorem c_X4_wrongSheetmis (l : Launch) (E : EV) (sh : Nat) (o : Nat → Nat) (ik : Int32) (be : Int32) (so : Int32) (tp : Int32) (fr : Int32) (tq : Int32) (vl : Int32) (wr : Int32) (bo : Nat → Int32) (h1 : sh < 4) (h2 : bo sh = 0) : CI l yX4_wrongSheet wsX4_wrongSheet rmX4_wrongSheet E [.ref (o 0), .int (nI sh)] [(o 0, moO o ik be so tp fr tq vl wr), (o 8, arI E 4 bo)] [(o 0, moO o ik be so tp fr tq vl wr), (o 8, arI E 4 bo)] ((-1000000006)) := by
  refine CI.of (own := RX4) (cc := cX4_wrongSheet) (nL := 2) (rt := (some .int)) (by decide) rfl rfl (Nat.le_of_ble_eq_true rfl) (fun X hX hQ => ?_)
  show G E X 2 0 [(0, .ref (o 0)), (1, .int (nI sh))] [] [(o 0, moO o ik be so tp fr tq vl wr), (o 8, arI E 4 bo)]
  refine G.iload_n hX 1 rfl dX4_wrongSheet_0 ?_
  refine G.s0i hX (As := [.int (nI sh)]) (st := []) (c_X4_isOnen _ E (x := sh) (h1 := by omega)) gX4_wrongSheet_X4_isOne cp_X4_isOne (by decide) rfl rfl (Nat.le_of_ble_eq_true rfl) dX4_wrongSheet_1 ?_
  refine G.if_ne hX (tgt := 12) (by decide) dX4_wrongSheet_4 (fun _ => ?_) (fun c4 => absurd c4 (by decide))
  refine G.aload_n hX 0 rfl dX4_wrongSheet_12 ?_
  refine G.get hX inc_X4_wrongSheet_4 0 rfl rfl 15 (by decide) (by decide +kernel) rfl dX4_wrongSheet_13 ?_
  refine G.iload_n hX 1 rfl dX4_wrongSheet_16 ?_
  refine G.iald hX (j := sh) 1 rfl (by omega) (by omega) dX4_wrongSheet_17 ?_
  refine G.if_ne hX (tgt := 27) (by decide) dX4_wrongSheet_18 (fun c18 => ?_) (fun c18 => ?_)
  · exact absurd h2 c18
  · refine G.ldcw hX (v := -1000000006) (by decide +kernel) dX4_wrongSheet_21 ?_
    refine G.goto hX (tgt := 28) (by decide) dX4_wrongSheet_24 ?_
    exact G.iret hX hQ dX4_wrongSheet_28 (by rfl) (by rfl)
set_option maxHeartbeats 4000000 in
set_option maxRecDepth 100000 in
theorem c_X4_wrongSheetok (l : Launch) (E : EV) (sh : Nat) (o : Nat → Nat) (ik : Int32) (be : Int32) (so : Int32) (tp : Int32) (fr : Int32) (tq : Int32) (vl : Int32) (wr : Int32) (bo : Nat → Int32) (h1 : sh < 4) (h2 : ¬ bo sh = 0) : CI l yX4_wrongSheet wsX4_wrongSheet rmX4_wrongSheet E [.ref (o 0), .int (nI sh)] [(o 0, moO o ik be so tp fr tq vl wr), (o 8, arI E 4 bo)] [(o 0, moO o ik be so tp fr tq vl wr), (o 8, arI E 4 bo)] 0 := by
  refine CI.of (own := RX4) (cc := cX4_wrongSheet) (nL := 2) (rt := (some .int)) (by decide) rfl rfl (Nat.le_of_ble_eq_true rfl) (fun X hX hQ => ?_)
  show G E X 2 0 [(0, .ref (o 0)), (1, .int (nI sh))] [] [(o 0, moO o ik be so tp fr tq vl wr), (o 8, arI E 4 bo)]
  refine G.iload_n hX 1 rfl dX4_wrongSheet_0 ?_
  refine G.s0i hX (As := [.int (nI sh)]) (st := []) (c_X4_isOnen _ E (x := sh) (h1 := by omega)) gX4_wrongSheet_X4_isOne cp_X4_isOne (by decide) rfl rfl (Nat.le_of_ble_eq_true rfl) dX4_wrongSheet_1 ?_
  refine G.if_ne hX (tgt := 12) (by decide) dX4_wrongSheet_4 (fun _ => ?_) (fun c4 => absurd c4 (by decide))
  refine G.aload_n hX 0 rfl dX4_wrongSheet_12 ?_
  refine G.get hX inc_X4_wrongSheet_4 0 rfl rfl 15 (by decide) (by decide +kernel) rfl dX4_wrongSheet_13 ?_
  refine G.iload_n hX 1 rfl dX4_wrongSheet_16 ?_
  refine G.iald hX (j := sh) 1 rfl (by omega) (by omega) dX4_wrongSheet_17 ?_
  refine G.if_ne hX (tgt := 27) (by decide) dX4_wrongSheet_18 (fun c18 => ?_) (fun c18 => ?_)
  · refine G.iconst hX (v := 0) (by decide) dX4_wrongSheet_27 ?_
    exact G.iret hX hQ dX4_wrongSheet_28 (by rfl) (by rfl)
  · exact absurd c18 h2
abbrev rmX4_sheet : Room := { frames := 2, cells := 0, slots := 0, locals := 45 }
theorem cp_X4_sheet : CP yX4_sheet RX4 wsX4_sheet 5 3 rmX4_sheet := ⟨⟨_, _, _, rfl⟩, rfl, rfl, by decide +kernel⟩
theorem inc_X4_sheet_4 : ∀ w ∈ u_ws RX4 TX4 19, w ∈ wsX4_sheet := by decide +kernel
set_option maxHeartbeats 4000000 in
set_option maxRecDepth 100000 in
theorem c_X4_sheetbad (l : Launch) (E : EV) (x : Int32) (b : Int32) (y : Int32) (o : Nat → Nat) (ik : Int32) (be : Int32) (so : Int32) (tp : Int32) (fr : Int32) (tq : Int32) (vl : Int32) (wr : Int32) (stt : Nat → Int32) (h1 : (inI x 0 3 && okB b) = false) : CI l yX4_sheet wsX4_sheet rmX4_sheet E [.ref (o 0), .int x, .int b, .int y] [(o 0, moO o ik be so tp fr tq vl wr), (o 5, arI E 7 stt)] [(o 0, moO o ik be so tp fr tq vl wr), (o 5, arI E 7 (upd stt 0 (stt 0 + 1)))] ((-1000000001)) := by
  refine CI.of (own := RX4) (cc := cX4_sheet) (nL := 5) (rt := (some .int)) (by decide) rfl rfl (Nat.le_of_ble_eq_true rfl) (fun X hX hQ => ?_)
  show G E X 5 0 [(0, .ref (o 0)), (1, .int x), (2, .int b), (3, .int y)] [] [(o 0, moO o ik be so tp fr tq vl wr), (o 5, arI E 7 stt)]
  refine G.iload_n hX 1 rfl dX4_sheet_0 ?_
  refine G.s0i hX (As := [.int x]) (st := []) (c_X4_isOne _ E (x := x) ) gX4_sheet_X4_isOne cp_X4_isOne (by decide) rfl rfl (Nat.le_of_ble_eq_true rfl) dX4_sheet_1 ?_
  refine G.b_eq hX (tgt := 29) (by decide) dX4_sheet_4 (fun c4 => ?_) (fun c4 => ?_)
  · refine G.aload_n hX 0 rfl dX4_sheet_29 ?_
    refine G.ldc hX (v := -1000000001) (by decide +kernel) dX4_sheet_30 ?_
    refine G.vi hX (As := [.int ((-1000000001))]) (st := []) (wr := []) (wf := [(o 0, moO o ik be so tp fr tq vl wr), (o 5, arI E 7 (upd stt 0 (stt 0 + 1)))]) (q0 := 0) (ci := 4) rfl rfl (c_X4_finds0 _ E (o := o) (ik := ik) (be := be) (so := so) (tp := tp) (fr := fr) (tq := tq) (vl := vl) (wr := wr) (stt := stt) ) gX4_sheet_X4_finds cp_X4_finds (by decide) [0, 1] [] [0, 1] ⟨rfl, rfl, by decide, rfl⟩ rfl rfl (Nat.le_of_ble_eq_true rfl) dX4_sheet_32 ?_
    exact G.iret hX hQ dX4_sheet_35 (by rfl) (by rfl)
  · refine G.iload_n hX 2 rfl dX4_sheet_7 ?_
    refine G.if_eq hX (tgt := 36) (by decide) dX4_sheet_8 (fun c8 => ?_) (fun c8 => ?_)
    · exact absurd h1 (by simp [okB, c4, c8])
    · refine G.iload_n hX 2 rfl dX4_sheet_11 ?_
      refine G.bipush hX (v := 8) (by decide) dX4_sheet_12 ?_
      refine G.icmp_eq hX (tgt := 36) (by decide) dX4_sheet_14 (fun c14 => ?_) (fun c14 => ?_)
      · exact absurd h1 (by simp [okB, c4, c8, c14])
      · refine G.iload_n hX 2 rfl dX4_sheet_17 ?_
        refine G.bipush hX (v := 16) (by decide) dX4_sheet_18 ?_
        refine G.icmp_eq hX (tgt := 36) (by decide) dX4_sheet_20 (fun c20 => ?_) (fun c20 => ?_)
        · exact absurd h1 (by simp [okB, c4, c8, c14, c20])
        · refine G.iload_n hX 2 rfl dX4_sheet_23 ?_
          refine G.bipush hX (v := 64) (by decide) dX4_sheet_24 ?_
          refine G.icmp_eq hX (tgt := 36) (by decide) dX4_sheet_26 (fun c26 => ?_) (fun c26 => ?_)
          · exact absurd h1 (by simp [okB, c4, c8, c14, c20, c26])
          · refine G.aload_n hX 0 rfl dX4_sheet_29 ?_
            refine G.ldc hX (v := -1000000001) (by decide +kernel) dX4_sheet_30 ?_
            refine G.vi hX (As := [.int ((-1000000001))]) (st := []) (wr := []) (wf := [(o 0, moO o ik be so tp fr tq vl wr), (o 5, arI E 7 (upd stt 0 (stt 0 + 1)))]) (q0 := 0) (ci := 4) rfl rfl (c_X4_finds0 _ E (o := o) (ik := ik) (be := be) (so := so) (tp := tp) (fr := fr) (tq := tq) (vl := vl) (wr := wr) (stt := stt) ) gX4_sheet_X4_finds cp_X4_finds (by decide) [0, 1] [] [0, 1] ⟨rfl, rfl, by decide, rfl⟩ rfl rfl (Nat.le_of_ble_eq_true rfl) dX4_sheet_32 ?_
            exact G.iret hX hQ dX4_sheet_35 (by rfl) (by rfl)
set_option maxHeartbeats 4000000 in
set_option maxRecDepth 100000 in
theorem c_X4_sheetsize (l : Launch) (E : EV) (sh : Nat) (b : Int32) (y : Int32) (o : Nat → Nat) (ik : Int32) (be : Int32) (so : Int32) (tp : Int32) (fr : Int32) (tq : Int32) (vl : Int32) (wr : Int32) (stt : Nat → Int32) (h1 : sh < 4) (h2 : okB b = true) (h3 : ¬ 0 ≤ y) : CI l yX4_sheet wsX4_sheet rmX4_sheet E [.ref (o 0), .int (nI sh), .int b, .int y] [(o 0, moO o ik be so tp fr tq vl wr), (o 5, arI E 7 stt)] [(o 0, moO o ik be so tp fr tq vl wr), (o 5, arI E 7 (upd stt 6 (stt 6 + 1)))] ((-1000000007)) := by
  refine CI.of (own := RX4) (cc := cX4_sheet) (nL := 5) (rt := (some .int)) (by decide) rfl rfl (Nat.le_of_ble_eq_true rfl) (fun X hX hQ => ?_)
  show G E X 5 0 [(0, .ref (o 0)), (1, .int (nI sh)), (2, .int b), (3, .int y)] [] [(o 0, moO o ik be so tp fr tq vl wr), (o 5, arI E 7 stt)]
  refine G.iload_n hX 1 rfl dX4_sheet_0 ?_
  refine G.s0i hX (As := [.int (nI sh)]) (st := []) (c_X4_isOnen _ E (x := sh) (h1 := by omega)) gX4_sheet_X4_isOne cp_X4_isOne (by decide) rfl rfl (Nat.le_of_ble_eq_true rfl) dX4_sheet_1 ?_
  refine G.if_eq hX (tgt := 29) (by decide) dX4_sheet_4 (fun c4 => absurd c4 (by decide)) (fun _ => ?_)
  have J36 : G E X 5 36 [(0, .ref (o 0)), (1, .int (nI sh)), (2, .int b), (3, .int y)] [] [(o 0, moO o ik be so tp fr tq vl wr), (o 5, arI E 7 stt)] := by
    refine G.iload_n hX 3 rfl dX4_sheet_36 ?_
    refine G.if_ge hX (tgt := 48) (by decide) dX4_sheet_37 (fun c37 => ?_) (fun c37 => ?_)
    · exact absurd c37 h3
    · refine G.aload_n hX 0 rfl dX4_sheet_40 ?_
      refine G.ldcw hX (v := -1000000007) (by decide +kernel) dX4_sheet_41 ?_
      refine G.vi hX (As := [.int ((-1000000007))]) (st := []) (wr := []) (wf := [(o 0, moO o ik be so tp fr tq vl wr), (o 5, arI E 7 (upd stt 6 (stt 6 + 1)))]) (q0 := 0) (ci := 4) rfl rfl (c_X4_finds6 _ E (o := o) (ik := ik) (be := be) (so := so) (tp := tp) (fr := fr) (tq := tq) (vl := vl) (wr := wr) (stt := stt) ) gX4_sheet_X4_finds cp_X4_finds (by decide) [0, 1] [] [0, 1] ⟨rfl, rfl, by decide, rfl⟩ rfl rfl (Nat.le_of_ble_eq_true rfl) dX4_sheet_44 ?_
      exact G.iret hX hQ dX4_sheet_47 (by rfl) (by rfl)
  refine G.iload_n hX 2 rfl dX4_sheet_7 ?_
  refine G.if_eq hX (tgt := 36) (by decide) dX4_sheet_8 (fun c8 => ?_) (fun c8 => ?_)
  · exact J36
  · refine G.iload_n hX 2 rfl dX4_sheet_11 ?_
    refine G.bipush hX (v := 8) (by decide) dX4_sheet_12 ?_
    refine G.icmp_eq hX (tgt := 36) (by decide) dX4_sheet_14 (fun c14 => ?_) (fun c14 => ?_)
    · exact J36
    · refine G.iload_n hX 2 rfl dX4_sheet_17 ?_
      refine G.bipush hX (v := 16) (by decide) dX4_sheet_18 ?_
      refine G.icmp_eq hX (tgt := 36) (by decide) dX4_sheet_20 (fun c20 => ?_) (fun c20 => ?_)
      · exact J36
      · refine G.iload_n hX 2 rfl dX4_sheet_23 ?_
        refine G.bipush hX (v := 64) (by decide) dX4_sheet_24 ?_
        refine G.icmp_eq hX (tgt := 36) (by decide) dX4_sheet_26 (fun c26 => ?_) (fun c26 => ?_)
        · exact J36
        · exact absurd h2 (by simp [okB, c8, c14, c20, c26])
set_option maxHeartbeats 4000000 in
set_option maxRecDepth 100000 in
theorem c_X4_sheetbig (l : Launch) (E : EV) (sh : Nat) (b : Int32) (y : Int32) (o : Nat → Nat) (ik : Int32) (be : Int32) (so : Int32) (tp : Int32) (fr : Int32) (tq : Int32) (vl : Int32) (wr : Int32) (stt : Nat → Int32) (h1 : sh < 4) (h2 : okB b = true) (h3 : 0 ≤ y) (h4 : ¬ y ≤ 40) : CI l yX4_sheet wsX4_sheet rmX4_sheet E [.ref (o 0), .int (nI sh), .int b, .int y] [(o 0, moO o ik be so tp fr tq vl wr), (o 5, arI E 7 stt)] [(o 0, moO o ik be so tp fr tq vl wr), (o 5, arI E 7 (upd stt 0 (stt 0 + 1)))] ((-1000000001)) := by
  refine CI.of (own := RX4) (cc := cX4_sheet) (nL := 5) (rt := (some .int)) (by decide) rfl rfl (Nat.le_of_ble_eq_true rfl) (fun X hX hQ => ?_)
  show G E X 5 0 [(0, .ref (o 0)), (1, .int (nI sh)), (2, .int b), (3, .int y)] [] [(o 0, moO o ik be so tp fr tq vl wr), (o 5, arI E 7 stt)]
  refine G.iload_n hX 1 rfl dX4_sheet_0 ?_
  refine G.s0i hX (As := [.int (nI sh)]) (st := []) (c_X4_isOnen _ E (x := sh) (h1 := by omega)) gX4_sheet_X4_isOne cp_X4_isOne (by decide) rfl rfl (Nat.le_of_ble_eq_true rfl) dX4_sheet_1 ?_
  refine G.if_eq hX (tgt := 29) (by decide) dX4_sheet_4 (fun c4 => absurd c4 (by decide)) (fun _ => ?_)
  have J36 : G E X 5 36 [(0, .ref (o 0)), (1, .int (nI sh)), (2, .int b), (3, .int y)] [] [(o 0, moO o ik be so tp fr tq vl wr), (o 5, arI E 7 stt)] := by
    refine G.iload_n hX 3 rfl dX4_sheet_36 ?_
    refine G.if_ge hX (tgt := 48) (by decide) dX4_sheet_37 (fun c37 => ?_) (fun c37 => ?_)
    · refine G.iload_n hX 3 rfl dX4_sheet_48 ?_
      refine G.bipush hX (v := 40) (by decide) dX4_sheet_49 ?_
      refine G.icmp_le hX (tgt := 61) (by decide) dX4_sheet_51 (fun c51 => ?_) (fun c51 => ?_)
      · exact absurd c51 h4
      · refine G.aload_n hX 0 rfl dX4_sheet_54 ?_
        refine G.ldc hX (v := -1000000001) (by decide +kernel) dX4_sheet_55 ?_
        refine G.vi hX (As := [.int ((-1000000001))]) (st := []) (wr := []) (wf := [(o 0, moO o ik be so tp fr tq vl wr), (o 5, arI E 7 (upd stt 0 (stt 0 + 1)))]) (q0 := 0) (ci := 4) rfl rfl (c_X4_finds0 _ E (o := o) (ik := ik) (be := be) (so := so) (tp := tp) (fr := fr) (tq := tq) (vl := vl) (wr := wr) (stt := stt) ) gX4_sheet_X4_finds cp_X4_finds (by decide) [0, 1] [] [0, 1] ⟨rfl, rfl, by decide, rfl⟩ rfl rfl (Nat.le_of_ble_eq_true rfl) dX4_sheet_57 ?_
        exact G.iret hX hQ dX4_sheet_60 (by rfl) (by rfl)
    · exact absurd h3 c37
  refine G.iload_n hX 2 rfl dX4_sheet_7 ?_
  refine G.if_eq hX (tgt := 36) (by decide) dX4_sheet_8 (fun c8 => ?_) (fun c8 => ?_)
  · exact J36
  · refine G.iload_n hX 2 rfl dX4_sheet_11 ?_
    refine G.bipush hX (v := 8) (by decide) dX4_sheet_12 ?_
    refine G.icmp_eq hX (tgt := 36) (by decide) dX4_sheet_14 (fun c14 => ?_) (fun c14 => ?_)
    · exact J36
    · refine G.iload_n hX 2 rfl dX4_sheet_17 ?_
      refine G.bipush hX (v := 16) (by decide) dX4_sheet_18 ?_
      refine G.icmp_eq hX (tgt := 36) (by decide) dX4_sheet_20 (fun c20 => ?_) (fun c20 => ?_)
      · exact J36
      · refine G.iload_n hX 2 rfl dX4_sheet_23 ?_
        refine G.bipush hX (v := 64) (by decide) dX4_sheet_24 ?_
        refine G.icmp_eq hX (tgt := 36) (by decide) dX4_sheet_26 (fun c26 => ?_) (fun c26 => ?_)
        · exact J36
        · exact absurd h2 (by simp [okB, c8, c14, c20, c26])
set_option maxHeartbeats 4000000 in
set_option maxRecDepth 100000 in
theorem c_X4_sheetok (l : Launch) (E : EV) (sh : Nat) (b : Int32) (z : Nat) (o : Nat → Nat) (ik : Int32) (be : Int32) (so : Int32) (tp : Int32) (fr : Int32) (tq : Int32) (vl : Int32) (wr : Int32) (bo : Nat → Int32) (szz : Nat → Int32) (nu : Nat → Int64) (h1 : sh < 4) (h2 : okB b = true) (h3 : z ≤ 40) : CI l yX4_sheet wsX4_sheet rmX4_sheet E [.ref (o 0), .int (nI sh), .int b, .int (nI z)] [(o 0, moO o ik be so tp fr tq vl wr), (o 8, arI E 4 bo), (o 9, arI E 4 szz), (o 10, arJ E 160 nu)] [(o 0, moO o ik be so tp fr tq vl wr), (o 8, arI E 4 (upd bo sh b)), (o 9, arI E 4 (upd szz sh (if b = 0 then 0 else nI z))), (o 10, arJ E 160 (ptN (40 * sh) 40 (fun _ => 0) nu))] (if b = 0 then 0 else nI z) := by
  refine CI.of (own := RX4) (cc := cX4_sheet) (nL := 5) (rt := (some .int)) (by decide) rfl rfl (Nat.le_of_ble_eq_true rfl) (fun X hX hQ => ?_)
  show G E X 5 0 [(0, .ref (o 0)), (1, .int (nI sh)), (2, .int b), (3, .int (nI z))] [] [(o 0, moO o ik be so tp fr tq vl wr), (o 8, arI E 4 bo), (o 9, arI E 4 szz), (o 10, arJ E 160 nu)]
  refine G.iload_n hX 1 rfl dX4_sheet_0 ?_
  refine G.s0i hX (As := [.int (nI sh)]) (st := []) (c_X4_isOnen _ E (x := sh) (h1 := by omega)) gX4_sheet_X4_isOne cp_X4_isOne (by decide) rfl rfl (Nat.le_of_ble_eq_true rfl) dX4_sheet_1 ?_
  refine G.if_eq hX (tgt := 29) (by decide) dX4_sheet_4 (fun c4 => absurd c4 (by decide)) (fun _ => ?_)
  have J36 : G E X 5 36 [(0, .ref (o 0)), (1, .int (nI sh)), (2, .int b), (3, .int (nI z))] [] [(o 0, moO o ik be so tp fr tq vl wr), (o 8, arI E 4 bo), (o 9, arI E 4 szz), (o 10, arJ E 160 nu)] := by
    refine G.iload_n hX 3 rfl dX4_sheet_36 ?_
    refine G.if_ge hX (tgt := 48) (by decide) dX4_sheet_37 (fun _ => ?_) (fun c37 => absurd (nI_pos' (by omega)) c37)
    refine G.iload_n hX 3 rfl dX4_sheet_48 ?_
    refine G.bipush hX (v := 40) (by decide) dX4_sheet_49 ?_
    refine G.n_le hX (a := z) (b := 40) (tgt := 61) (by omega) (by omega) (by decide) dX4_sheet_51 (fun c51 => ?_) (fun c51 => ?_)
    · refine G.aload_n hX 0 rfl dX4_sheet_61 ?_
      refine G.get hX inc_X4_sheet_4 0 rfl rfl 15 (by decide) (by decide +kernel) rfl dX4_sheet_62 ?_
      refine G.iload_n hX 1 rfl dX4_sheet_65 ?_
      refine G.iload_n hX 2 rfl dX4_sheet_66 ?_
      refine G.iast hX (j := sh) (ws' := [(o 0, moO o ik be so tp fr tq vl wr), (o 8, arI E 4 (upd bo sh b)), (o 9, arI E 4 szz), (o 10, arJ E 160 nu)]) 1 rfl (by omega) (by omega) rfl rfl dX4_sheet_67 ?_
      have J82 : G E X 5 82 [(0, .ref (o 0)), (1, .int (nI sh))] [.int (if b = 0 then 0 else nI z), .int (nI sh), .ref (o 9)] [(o 0, moO o ik be so tp fr tq vl wr), (o 8, arI E 4 (upd bo sh b)), (o 9, arI E 4 szz), (o 10, arJ E 160 nu)] := by
        refine G.iast hX (j := sh) (ws' := [(o 0, moO o ik be so tp fr tq vl wr), (o 8, arI E 4 (upd bo sh b)), (o 9, arI E 4 (upd szz sh (if b = 0 then 0 else nI z))), (o 10, arJ E 160 nu)]) 2 rfl (by omega) (by omega) rfl rfl dX4_sheet_82 ?_
        refine G.iconst hX (v := 0) (by decide) dX4_sheet_83 ?_
        refine G.istore hX (lv' := [(4, .int 0), (0, .ref (o 0)), (1, .int (nI sh))]) (by decide) rfl dX4_sheet_84 ?_
        have L86 : ∀ (n : Nat) (k : Nat), k ≤ 40 → 41 ≤ k + n → G E X 5 86 [(0, .ref (o 0)), (1, .int (nI sh)), (4, .int (nI k))] [] [(o 0, moO o ik be so tp fr tq vl wr), (o 8, arI E 4 (upd bo sh b)), (o 9, arI E 4 (upd szz sh (if b = 0 then 0 else nI z))), (o 10, arJ E 160 (ptN (40 * sh) k (fun _ => 0) nu))] := by
          intro n
          induction n with
          | zero => intro k hl86_0 hl86_1; exact absurd hl86_1 (by omega)
          | succ n ih86 =>
            intro k hl86_0 hl86_1
            refine G.iload hX 2 rfl dX4_sheet_86 ?_
            refine G.bipush hX (v := 40) (by decide) dX4_sheet_88 ?_
            refine G.n_ge hX (a := k) (b := 40) (tgt := 112) (by omega) (by omega) (by decide) dX4_sheet_90 (fun c90 => ?_) (fun c90 => ?_)
            · obtain rfl : k = 40 := by omega
              refine G.aload_n hX 0 rfl dX4_sheet_112 ?_
              refine G.get hX inc_X4_sheet_4 0 rfl rfl 16 (by decide) (by decide +kernel) rfl dX4_sheet_113 ?_
              refine G.iload_n hX 1 rfl dX4_sheet_116 ?_
              refine G.iald hX (j := sh) 2 rfl (by omega) (by omega) dX4_sheet_117 ?_
              exact G.iret hX hQ dX4_sheet_118 (by simp [upd]) (by rfl)
            · refine G.aload_n hX 0 rfl dX4_sheet_93 ?_
              refine G.get hX inc_X4_sheet_4 0 rfl rfl 17 (by decide) (by decide +kernel) rfl dX4_sheet_94 ?_
              refine G.bipush hX (v := 40) (by decide) dX4_sheet_97 ?_
              refine G.iload_n hX 1 rfl dX4_sheet_99 ?_
              refine G.imul hX dX4_sheet_100 ?_
              refine G.ie (pk_mul 40 sh) ?_
              refine G.iload hX 2 rfl dX4_sheet_101 ?_
              refine G.iadd hX dX4_sheet_103 ?_
              refine G.ie (nI_add (40 * sh) k) ?_
              refine G.lconst hX (v := 0) (by decide) dX4_sheet_104 ?_
              refine G.last hX (j := (40 * sh) + k) (ws' := [(o 0, moO o ik be so tp fr tq vl wr), (o 8, arI E 4 (upd bo sh b)), (o 9, arI E 4 (upd szz sh (if b = 0 then 0 else nI z))), (o 10, arJ E 160 (vp_updL (ptN (40 * sh) k (fun _ => 0) nu) ((40 * sh) + k) 0))]) 3 rfl (by omega) (by omega) rfl rfl dX4_sheet_105 ?_
              refine G.iinc hX (n := 1) (lv' := [(4, .int (nI (k + 1))), (0, .ref (o 0)), (1, .int (nI sh))]) 2 rfl (inc_nI k 1 rfl) (by decide) rfl dX4_sheet_106 ?_
              refine G.goto hX (tgt := 86) (by decide) dX4_sheet_109 ?_
              refine G.lvp (lv' := [(0, .ref (o 0)), (1, .int (nI sh)), (4, .int (nI (k + 1)))]) [1, 2, 0] rfl ?_
              refine G.lve (lv' := [(0, .ref (o 0)), (1, .int (nI sh)), (4, .int (nI ((k + 1))))]) (by rfl) ?_
              refine G.we (ws' := [(o 0, moO o ik be so tp fr tq vl wr), (o 8, arI E 4 (upd bo sh b)), (o 9, arI E 4 (upd szz sh (if b = 0 then 0 else nI z))), (o 10, arJ E 160 (ptN (40 * sh) (k + 1) (fun _ => 0) nu))]) (by rw [← ptN_s]) ?_
              exact ih86 (k + 1) (by omega) (by omega)
        refine G.lvp (lv' := [(0, .ref (o 0)), (1, .int (nI sh)), (4, .int 0)]) [1, 2, 0] rfl ?_
        refine G.lve (lv' := [(0, .ref (o 0)), (1, .int (nI sh)), (4, .int (nI 0))]) (by rfl) ?_
        refine G.we (ws' := [(o 0, moO o ik be so tp fr tq vl wr), (o 8, arI E 4 (upd bo sh b)), (o 9, arI E 4 (upd szz sh (if b = 0 then 0 else nI z))), (o 10, arJ E 160 (ptN (40 * sh) 0 (fun _ => 0) nu))]) (by rw [ptN_0]) ?_
        exact L86 41 0 (by omega) (by omega)
      refine G.aload_n hX 0 rfl dX4_sheet_68 ?_
      refine G.get hX inc_X4_sheet_4 0 rfl rfl 16 (by decide) (by decide +kernel) rfl dX4_sheet_69 ?_
      refine G.iload_n hX 1 rfl dX4_sheet_72 ?_
      refine G.iload_n hX 2 rfl dX4_sheet_73 ?_
      refine G.if_ne hX (tgt := 81) (by decide) dX4_sheet_74 (fun c74 => ?_) (fun c74 => ?_)
      · refine G.iload_n hX 3 rfl dX4_sheet_81 ?_
        refine G.lvp (lv' := [(0, .ref (o 0)), (1, .int (nI sh))]) [0, 1] rfl ?_
        refine G.ve (y := .int (if b = 0 then 0 else nI z)) (by first | rfl | (simp only [c51, c74, ↓reduceIte, Bool.not_true, Bool.not_false, Bool.and_true, Bool.true_and, Bool.and_false, Bool.false_and, Bool.or_true, Bool.true_or, Bool.or_false, Bool.false_or, decide_true, decide_false, not_true_eq_false, not_false_eq_true, Bool.false_eq_true, Bool.true_eq_false]; done) | (simp only [c51, c74, ↓reduceIte, Bool.not_true, Bool.not_false, Bool.and_true, Bool.true_and, Bool.and_false, Bool.false_and, Bool.or_true, Bool.true_or, Bool.or_false, Bool.false_or, decide_true, decide_false, not_true_eq_false, not_false_eq_true, Bool.false_eq_true, Bool.true_eq_false]; rfl) | (simp [c51, c74]; done)) ?_
        exact J82
      · refine G.iconst hX (v := 0) (by decide) dX4_sheet_77 ?_
        refine G.goto hX (tgt := 82) (by decide) dX4_sheet_78 ?_
        refine G.lvp (lv' := [(0, .ref (o 0)), (1, .int (nI sh))]) [0, 1] rfl ?_
        refine G.ve (y := .int (if b = 0 then 0 else nI z)) (by first | rfl | (simp only [c51, c74, ↓reduceIte, Bool.not_true, Bool.not_false, Bool.and_true, Bool.true_and, Bool.and_false, Bool.false_and, Bool.or_true, Bool.true_or, Bool.or_false, Bool.false_or, decide_true, decide_false, not_true_eq_false, not_false_eq_true, Bool.false_eq_true, Bool.true_eq_false]; done) | (simp only [c51, c74, ↓reduceIte, Bool.not_true, Bool.not_false, Bool.and_true, Bool.true_and, Bool.and_false, Bool.false_and, Bool.or_true, Bool.true_or, Bool.or_false, Bool.false_or, decide_true, decide_false, not_true_eq_false, not_false_eq_true, Bool.false_eq_true, Bool.true_eq_false]; rfl) | (simp [c51, c74]; done)) ?_
        exact J82
    · exact absurd h3 (by omega)
  refine G.iload_n hX 2 rfl dX4_sheet_7 ?_
  refine G.if_eq hX (tgt := 36) (by decide) dX4_sheet_8 (fun c8 => ?_) (fun c8 => ?_)
  · exact J36
  · refine G.iload_n hX 2 rfl dX4_sheet_11 ?_
    refine G.bipush hX (v := 8) (by decide) dX4_sheet_12 ?_
    refine G.icmp_eq hX (tgt := 36) (by decide) dX4_sheet_14 (fun c14 => ?_) (fun c14 => ?_)
    · exact J36
    · refine G.iload_n hX 2 rfl dX4_sheet_17 ?_
      refine G.bipush hX (v := 16) (by decide) dX4_sheet_18 ?_
      refine G.icmp_eq hX (tgt := 36) (by decide) dX4_sheet_20 (fun c20 => ?_) (fun c20 => ?_)
      · exact J36
      · refine G.iload_n hX 2 rfl dX4_sheet_23 ?_
        refine G.bipush hX (v := 64) (by decide) dX4_sheet_24 ?_
        refine G.icmp_eq hX (tgt := 36) (by decide) dX4_sheet_26 (fun c26 => ?_) (fun c26 => ?_)
        · exact J36
        · exact absurd h2 (by simp [okB, c8, c14, c20, c26])
abbrev rmX4_write : Room := { frames := 3, cells := 0, slots := 0, locals := 66 }
theorem cp_X4_write : CP yX4_write RX4 wsX4_write 8 3 rmX4_write := ⟨⟨_, _, _, rfl⟩, rfl, rfl, by decide +kernel⟩
theorem inc_X4_write_4 : ∀ w ∈ u_ws RX4 TX4 19, w ∈ wsX4_write := by decide +kernel
set_option maxHeartbeats 4000000 in
set_option maxRecDepth 100000 in
theorem c_X4_writebad (l : Launch) (E : EV) (x : Int32) (i : Int32) (v : Int64) (o : Nat → Nat) (ik : Int32) (be : Int32) (so : Int32) (tp : Int32) (fr : Int32) (tq : Int32) (vl : Int32) (wr : Int32) (stt : Nat → Int32) (bo : Nat → Int32) (h1 : inI x 0 3 = false) : CL l yX4_write wsX4_write rmX4_write E [.ref (o 0), .int x, .int i, .long v] [(o 0, moO o ik be so tp fr tq vl wr), (o 5, arI E 7 stt), (o 8, arI E 4 bo)] [(o 0, moO o ik be so tp fr tq vl wr), (o 5, arI E 7 (upd stt 0 (stt 0 + 1))), (o 8, arI E 4 bo)] ((-1000000001)) := by
  refine CL.of (own := RX4) (cc := cX4_write) (nL := 8) (rt := (some .long)) (by decide) rfl rfl (Nat.le_of_ble_eq_true rfl) (fun X hX hQ => ?_)
  show G E X 8 0 [(0, .ref (o 0)), (1, .int x), (2, .int i), (3, .long v)] [] [(o 0, moO o ik be so tp fr tq vl wr), (o 5, arI E 7 stt), (o 8, arI E 4 bo)]
  refine G.aload_n hX 0 rfl dX4_write_0 ?_
  refine G.iload_n hX 1 rfl dX4_write_1 ?_
  refine G.vi hX (As := [.int x]) (st := []) (wr := [(o 5, arI E 7 stt)]) (wf := [(o 0, moO o ik be so tp fr tq vl wr), (o 5, arI E 7 stt), (o 8, arI E 4 bo)]) (q0 := 0) (ci := 4) rfl rfl (c_X4_wrongSheetbad _ E (x := x) (o := o) (ik := ik) (be := be) (so := so) (tp := tp) (fr := fr) (tq := tq) (vl := vl) (wr := wr) (bo := bo) (h1 := by omega)) gX4_write_X4_wrongSheet cp_X4_wrongSheet (by decide) [0, 2] [1] [1, 0, 2] ⟨rfl, rfl, by decide, rfl⟩ rfl rfl (Nat.le_of_ble_eq_true rfl) dX4_write_2 ?_
  refine G.istore hX (lv' := [(5, .int ((-1000000001))), (0, .ref (o 0)), (1, .int x), (2, .int i), (3, .long v)]) (by decide) rfl dX4_write_5 ?_
  refine G.iload hX 0 rfl dX4_write_7 ?_
  refine G.if_eq hX (tgt := 20) (by decide) dX4_write_9 (fun c9 => absurd c9 (by decide)) (fun _ => ?_)
  refine G.aload_n hX 1 rfl dX4_write_12 ?_
  refine G.iload hX 0 rfl dX4_write_13 ?_
  refine G.vi hX (As := [.int ((-1000000001))]) (st := []) (wr := [(o 8, arI E 4 bo)]) (wf := [(o 0, moO o ik be so tp fr tq vl wr), (o 5, arI E 7 (upd stt 0 (stt 0 + 1))), (o 8, arI E 4 bo)]) (q0 := 0) (ci := 4) rfl rfl (c_X4_finds0 _ E (o := o) (ik := ik) (be := be) (so := so) (tp := tp) (fr := fr) (tq := tq) (vl := vl) (wr := wr) (stt := stt) ) gX4_write_X4_finds cp_X4_finds (by decide) [0, 1] [2] [1, 2, 0] ⟨rfl, rfl, by decide, rfl⟩ rfl rfl (Nat.le_of_ble_eq_true rfl) dX4_write_15 ?_
  refine G.i2l hX dX4_write_18 ?_
  refine G.le (y := -1000000001) (by decide) ?_
  exact G.lret hX hQ dX4_write_19 (by rfl) (by rfl)
set_option maxHeartbeats 4000000 in
set_option maxRecDepth 100000 in
theorem c_X4_writemis (l : Launch) (E : EV) (sh : Nat) (i : Int32) (v : Int64) (o : Nat → Nat) (ik : Int32) (be : Int32) (so : Int32) (tp : Int32) (fr : Int32) (tq : Int32) (vl : Int32) (wr : Int32) (stt : Nat → Int32) (bo : Nat → Int32) (h1 : sh < 4) (h2 : bo sh = 0) : CL l yX4_write wsX4_write rmX4_write E [.ref (o 0), .int (nI sh), .int i, .long v] [(o 0, moO o ik be so tp fr tq vl wr), (o 5, arI E 7 stt), (o 8, arI E 4 bo)] [(o 0, moO o ik be so tp fr tq vl wr), (o 5, arI E 7 (upd stt 5 (stt 5 + 1))), (o 8, arI E 4 bo)] ((-1000000006)) := by
  refine CL.of (own := RX4) (cc := cX4_write) (nL := 8) (rt := (some .long)) (by decide) rfl rfl (Nat.le_of_ble_eq_true rfl) (fun X hX hQ => ?_)
  show G E X 8 0 [(0, .ref (o 0)), (1, .int (nI sh)), (2, .int i), (3, .long v)] [] [(o 0, moO o ik be so tp fr tq vl wr), (o 5, arI E 7 stt), (o 8, arI E 4 bo)]
  refine G.aload_n hX 0 rfl dX4_write_0 ?_
  refine G.iload_n hX 1 rfl dX4_write_1 ?_
  refine G.vi hX (As := [.int (nI sh)]) (st := []) (wr := [(o 5, arI E 7 stt)]) (wf := [(o 0, moO o ik be so tp fr tq vl wr), (o 5, arI E 7 stt), (o 8, arI E 4 bo)]) (q0 := 0) (ci := 4) rfl rfl (c_X4_wrongSheetmis _ E (sh := sh) (o := o) (ik := ik) (be := be) (so := so) (tp := tp) (fr := fr) (tq := tq) (vl := vl) (wr := wr) (bo := bo) (h1 := by omega) (h2 := h2)) gX4_write_X4_wrongSheet cp_X4_wrongSheet (by decide) [0, 2] [1] [1, 0, 2] ⟨rfl, rfl, by decide, rfl⟩ rfl rfl (Nat.le_of_ble_eq_true rfl) dX4_write_2 ?_
  refine G.istore hX (lv' := [(5, .int ((-1000000006))), (0, .ref (o 0)), (1, .int (nI sh)), (2, .int i), (3, .long v)]) (by decide) rfl dX4_write_5 ?_
  refine G.iload hX 0 rfl dX4_write_7 ?_
  refine G.if_eq hX (tgt := 20) (by decide) dX4_write_9 (fun c9 => absurd c9 (by decide)) (fun _ => ?_)
  refine G.aload_n hX 1 rfl dX4_write_12 ?_
  refine G.iload hX 0 rfl dX4_write_13 ?_
  refine G.vi hX (As := [.int ((-1000000006))]) (st := []) (wr := [(o 8, arI E 4 bo)]) (wf := [(o 0, moO o ik be so tp fr tq vl wr), (o 5, arI E 7 (upd stt 5 (stt 5 + 1))), (o 8, arI E 4 bo)]) (q0 := 0) (ci := 4) rfl rfl (c_X4_finds5 _ E (o := o) (ik := ik) (be := be) (so := so) (tp := tp) (fr := fr) (tq := tq) (vl := vl) (wr := wr) (stt := stt) ) gX4_write_X4_finds cp_X4_finds (by decide) [0, 1] [2] [1, 2, 0] ⟨rfl, rfl, by decide, rfl⟩ rfl rfl (Nat.le_of_ble_eq_true rfl) dX4_write_15 ?_
  refine G.i2l hX dX4_write_18 ?_
  refine G.le (y := -1000000006) (by decide) ?_
  exact G.lret hX hQ dX4_write_19 (by rfl) (by rfl)
set_option maxHeartbeats 4000000 in
set_option maxRecDepth 100000 in
theorem c_X4_writebey (l : Launch) (E : EV) (sh : Nat) (i : Int32) (v : Int64) (o : Nat → Nat) (ik : Int32) (be : Int32) (so : Int32) (tp : Int32) (fr : Int32) (tq : Int32) (vl : Int32) (wr : Int32) (stt : Nat → Int32) (bo : Nat → Int32) (szz : Nat → Int32) (h1 : sh < 4) (h2 : ¬ bo sh = 0) (h3 : inR i.toInt64 0 (szz sh - 1).toInt64 = false) : CL l yX4_write wsX4_write rmX4_write E [.ref (o 0), .int (nI sh), .int i, .long v] [(o 0, moO o ik be so tp fr tq vl wr), (o 5, arI E 7 stt), (o 8, arI E 4 bo), (o 9, arI E 4 szz)] [(o 0, moO o ik be so tp fr tq vl wr), (o 5, arI E 7 (upd stt 0 (stt 0 + 1))), (o 8, arI E 4 bo), (o 9, arI E 4 szz)] ((-1000000001)) := by
  refine CL.of (own := RX4) (cc := cX4_write) (nL := 8) (rt := (some .long)) (by decide) rfl rfl (Nat.le_of_ble_eq_true rfl) (fun X hX hQ => ?_)
  show G E X 8 0 [(0, .ref (o 0)), (1, .int (nI sh)), (2, .int i), (3, .long v)] [] [(o 0, moO o ik be so tp fr tq vl wr), (o 5, arI E 7 stt), (o 8, arI E 4 bo), (o 9, arI E 4 szz)]
  refine G.aload_n hX 0 rfl dX4_write_0 ?_
  refine G.iload_n hX 1 rfl dX4_write_1 ?_
  refine G.vi hX (As := [.int (nI sh)]) (st := []) (wr := [(o 5, arI E 7 stt), (o 9, arI E 4 szz)]) (wf := [(o 0, moO o ik be so tp fr tq vl wr), (o 5, arI E 7 stt), (o 8, arI E 4 bo), (o 9, arI E 4 szz)]) (q0 := 0) (ci := 4) rfl rfl (c_X4_wrongSheetok _ E (sh := sh) (o := o) (ik := ik) (be := be) (so := so) (tp := tp) (fr := fr) (tq := tq) (vl := vl) (wr := wr) (bo := bo) (h1 := by omega) (h2 := h2)) gX4_write_X4_wrongSheet cp_X4_wrongSheet (by decide) [0, 2] [1, 3] [2, 0, 3, 1] ⟨rfl, rfl, by decide, rfl⟩ rfl rfl (Nat.le_of_ble_eq_true rfl) dX4_write_2 ?_
  refine G.istore hX (lv' := [(5, .int 0), (0, .ref (o 0)), (1, .int (nI sh)), (2, .int i), (3, .long v)]) (by decide) rfl dX4_write_5 ?_
  refine G.iload hX 0 rfl dX4_write_7 ?_
  refine G.if_eq hX (tgt := 20) (by decide) dX4_write_9 (fun _ => ?_) (fun c9 => absurd c9 (by decide))
  refine G.iload_n hX 3 rfl dX4_write_20 ?_
  refine G.i2l hX dX4_write_21 ?_
  refine G.lconst hX (v := 0) (by decide) dX4_write_22 ?_
  refine G.aload_n hX 1 rfl dX4_write_23 ?_
  refine G.get hX inc_X4_write_4 0 rfl rfl 16 (by decide) (by decide +kernel) rfl dX4_write_24 ?_
  refine G.iload_n hX 2 rfl dX4_write_27 ?_
  refine G.iald hX (j := sh) 3 rfl (by omega) (by omega) dX4_write_28 ?_
  refine G.iconst hX (v := 1) (by decide) dX4_write_29 ?_
  refine G.isub hX dX4_write_30 ?_
  refine G.i2l hX dX4_write_31 ?_
  refine G.s0i hX (As := [.long i.toInt64, .long 0, .long (((szz sh) - 1).toInt64)]) (st := []) (c_X4_in _ E (v := i.toInt64) (lo := 0) (hi := ((szz sh) - 1).toInt64) ) gX4_write_X4_in cp_X4_in (by decide) rfl rfl (Nat.le_of_ble_eq_true rfl) dX4_write_32 ?_
  refine G.ie (y := bI (inI i 0 (((szz sh) - 1).toInt64))) rfl ?_
  refine G.b_ne hX (tgt := 46) (by decide) dX4_write_35 (fun c35 => ?_) (fun c35 => ?_)
  · exact absurd h3 (by simp [inI] at c35; simp [c35])
  · refine G.aload_n hX 1 rfl dX4_write_38 ?_
    refine G.ldc hX (v := -1000000001) (by decide +kernel) dX4_write_39 ?_
    refine G.vi hX (As := [.int ((-1000000001))]) (st := []) (wr := [(o 8, arI E 4 bo), (o 9, arI E 4 szz)]) (wf := [(o 0, moO o ik be so tp fr tq vl wr), (o 5, arI E 7 (upd stt 0 (stt 0 + 1))), (o 8, arI E 4 bo), (o 9, arI E 4 szz)]) (q0 := 0) (ci := 4) rfl rfl (c_X4_finds0 _ E (o := o) (ik := ik) (be := be) (so := so) (tp := tp) (fr := fr) (tq := tq) (vl := vl) (wr := wr) (stt := stt) ) gX4_write_X4_finds cp_X4_finds (by decide) [0, 1] [2, 3] [2, 3, 0, 1] ⟨rfl, rfl, by decide, rfl⟩ rfl rfl (Nat.le_of_ble_eq_true rfl) dX4_write_41 ?_
    refine G.i2l hX dX4_write_44 ?_
    refine G.le (y := -1000000001) (by decide) ?_
    exact G.lret hX hQ dX4_write_45 (by rfl) (by rfl)
set_option maxHeartbeats 4000000 in
set_option maxRecDepth 100000 in
theorem c_X4_writeok (l : Launch) (E : EV) (sh : Nat) (i : Nat) (z : Nat) (v : Int64) (o : Nat → Nat) (ik : Int32) (be : Int32) (so : Int32) (tp : Int32) (fr : Int32) (tq : Int32) (vl : Int32) (wr : Int32) (bo : Nat → Int32) (szz : Nat → Int32) (nu : Nat → Int64) (h1 : sh < 4) (h2 : ¬ bo sh = 0) (h3 : szz sh = nI z) (h4 : z ≤ 40) (h5 : i < z) : CL l yX4_write wsX4_write rmX4_write E [.ref (o 0), .int (nI sh), .int (nI i), .long v] [(o 0, moO o ik be so tp fr tq vl wr), (o 8, arI E 4 bo), (o 9, arI E 4 szz), (o 10, arJ E 160 nu)] [(o 0, moO o ik be so tp fr tq vl wr), (o 8, arI E 4 bo), (o 9, arI E 4 szz), (o 10, arJ E 160 (vp_updL nu (40 * sh + i) (nrw (bo sh) v)))] (nu (40 * sh + i)) := by
  refine CL.of (own := RX4) (cc := cX4_write) (nL := 8) (rt := (some .long)) (by decide) rfl rfl (Nat.le_of_ble_eq_true rfl) (fun X hX hQ => ?_)
  show G E X 8 0 [(0, .ref (o 0)), (1, .int (nI sh)), (2, .int (nI i)), (3, .long v)] [] [(o 0, moO o ik be so tp fr tq vl wr), (o 8, arI E 4 bo), (o 9, arI E 4 szz), (o 10, arJ E 160 nu)]
  refine G.aload_n hX 0 rfl dX4_write_0 ?_
  refine G.iload_n hX 1 rfl dX4_write_1 ?_
  refine G.vi hX (As := [.int (nI sh)]) (st := []) (wr := [(o 9, arI E 4 szz), (o 10, arJ E 160 nu)]) (wf := [(o 0, moO o ik be so tp fr tq vl wr), (o 8, arI E 4 bo), (o 9, arI E 4 szz), (o 10, arJ E 160 nu)]) (q0 := 0) (ci := 4) rfl rfl (c_X4_wrongSheetok _ E (sh := sh) (o := o) (ik := ik) (be := be) (so := so) (tp := tp) (fr := fr) (tq := tq) (vl := vl) (wr := wr) (bo := bo) (h1 := by omega) (h2 := h2)) gX4_write_X4_wrongSheet cp_X4_wrongSheet (by decide) [0, 1] [2, 3] [2, 3, 0, 1] ⟨rfl, rfl, by decide, rfl⟩ rfl rfl (Nat.le_of_ble_eq_true rfl) dX4_write_2 ?_
  refine G.istore hX (lv' := [(5, .int 0), (0, .ref (o 0)), (1, .int (nI sh)), (2, .int (nI i)), (3, .long v)]) (by decide) rfl dX4_write_5 ?_
  refine G.iload hX 0 rfl dX4_write_7 ?_
  refine G.if_eq hX (tgt := 20) (by decide) dX4_write_9 (fun _ => ?_) (fun c9 => absurd c9 (by decide))
  refine G.iload_n hX 3 rfl dX4_write_20 ?_
  refine G.i2l hX dX4_write_21 ?_
  refine G.le (y := lN i) (nI_l (by omega)) ?_
  refine G.lconst hX (v := 0) (by decide) dX4_write_22 ?_
  refine G.aload_n hX 1 rfl dX4_write_23 ?_
  refine G.get hX inc_X4_write_4 0 rfl rfl 16 (by decide) (by decide +kernel) rfl dX4_write_24 ?_
  refine G.iload_n hX 2 rfl dX4_write_27 ?_
  refine G.iald hX (j := sh) 2 rfl (by omega) (by omega) dX4_write_28 ?_
  refine G.ie (y := nI z) (by exact h3) ?_
  refine G.iconst hX (v := 1) (by decide) dX4_write_29 ?_
  refine G.isub hX dX4_write_30 ?_
  refine G.ie (pk_sub (a := z) (b := 1) (by omega)) ?_
  refine G.i2l hX dX4_write_31 ?_
  refine G.le (y := lN (z - 1)) (nI_l (by omega)) ?_
  refine G.s0i hX (As := [.long (lN i), .long 0, .long (lN (z - 1))]) (st := []) (c_X4_inn _ E (v := i) (lo := 0) (hi := z - 1) (h1 := by omega) (h2 := by omega) (h3 := by omega)) gX4_write_X4_in cp_X4_in (by decide) rfl rfl (Nat.le_of_ble_eq_true rfl) dX4_write_32 ?_
  refine G.if_ne hX (tgt := 46) (by decide) dX4_write_35 (fun _ => ?_) (fun c35 => absurd c35 (by decide))
  refine G.aload_n hX 1 rfl dX4_write_46 ?_
  refine G.get hX inc_X4_write_4 0 rfl rfl 17 (by decide) (by decide +kernel) rfl dX4_write_47 ?_
  refine G.bipush hX (v := 40) (by decide) dX4_write_50 ?_
  refine G.iload_n hX 2 rfl dX4_write_52 ?_
  refine G.imul hX dX4_write_53 ?_
  refine G.ie (pk_mul 40 sh) ?_
  refine G.iload_n hX 3 rfl dX4_write_54 ?_
  refine G.iadd hX dX4_write_55 ?_
  refine G.ie (nI_add (40 * sh) i) ?_
  refine G.lald hX (j := (40 * sh) + i) 3 rfl (by omega) (by omega) dX4_write_56 ?_
  refine G.lstore hX (lv' := [(6, .long (nu ((40 * sh) + i))), (5, .int 0), (0, .ref (o 0)), (1, .int (nI sh)), (2, .int (nI i)), (3, .long v)]) (by decide) rfl dX4_write_57 ?_
  refine G.aload_n hX 2 rfl dX4_write_59 ?_
  refine G.get hX inc_X4_write_4 0 rfl rfl 17 (by decide) (by decide +kernel) rfl dX4_write_60 ?_
  refine G.bipush hX (v := 40) (by decide) dX4_write_63 ?_
  refine G.iload_n hX 3 rfl dX4_write_65 ?_
  refine G.imul hX dX4_write_66 ?_
  refine G.ie (pk_mul 40 sh) ?_
  refine G.iload_n hX 4 rfl dX4_write_67 ?_
  refine G.iadd hX dX4_write_68 ?_
  refine G.ie (nI_add (40 * sh) i) ?_
  refine G.aload_n hX 2 rfl dX4_write_69 ?_
  refine G.get hX inc_X4_write_4 0 rfl rfl 15 (by decide) (by decide +kernel) rfl dX4_write_70 ?_
  refine G.iload_n hX 3 rfl dX4_write_73 ?_
  refine G.iald hX (j := sh) 1 rfl (by omega) (by omega) dX4_write_74 ?_
  refine G.lload_n hX 5 rfl dX4_write_75 ?_
  refine G.s0l hX (As := [.int (bo sh), .long v]) (st := [.int (nI ((40 * sh) + i)), .ref (o 10)]) (c_X4_narrowed _ E (b := bo sh) (v := v) ) gX4_write_X4_narrowed cp_X4_narrowed (by decide) rfl rfl (Nat.le_of_ble_eq_true rfl) dX4_write_76 ?_
  refine G.last hX (j := (40 * sh) + i) (ws' := [(o 0, moO o ik be so tp fr tq vl wr), (o 8, arI E 4 bo), (o 9, arI E 4 szz), (o 10, arJ E 160 (vp_updL nu ((40 * sh) + i) (nrw (bo sh) v)))]) 3 rfl (by omega) (by omega) rfl rfl dX4_write_79 ?_
  refine G.lload hX 0 rfl dX4_write_80 ?_
  exact G.lret hX hQ dX4_write_82 (by first | rfl | (simp only [↓reduceIte, Bool.not_true, Bool.not_false, Bool.and_true, Bool.true_and, Bool.and_false, Bool.false_and, Bool.or_true, Bool.true_or, Bool.or_false, Bool.false_or, decide_true, decide_false, not_true_eq_false, not_false_eq_true, Bool.false_eq_true, Bool.true_eq_false]; done) | (simp only [↓reduceIte, Bool.not_true, Bool.not_false, Bool.and_true, Bool.true_and, Bool.and_false, Bool.false_and, Bool.or_true, Bool.true_or, Bool.or_false, Bool.false_or, decide_true, decide_false, not_true_eq_false, not_false_eq_true, Bool.false_eq_true, Bool.true_eq_false]; rfl) | (simp []; done)) (by first | rfl | (simp only [↓reduceIte, Bool.not_true, Bool.not_false, Bool.and_true, Bool.true_and, Bool.and_false, Bool.false_and, Bool.or_true, Bool.true_or, Bool.or_false, Bool.false_or, decide_true, decide_false, not_true_eq_false, not_false_eq_true, Bool.false_eq_true, Bool.true_eq_false]; done) | (simp only [↓reduceIte, Bool.not_true, Bool.not_false, Bool.and_true, Bool.true_and, Bool.and_false, Bool.false_and, Bool.or_true, Bool.true_or, Bool.or_false, Bool.false_or, decide_true, decide_false, not_true_eq_false, not_false_eq_true, Bool.false_eq_true, Bool.true_eq_false]; rfl) | (simp []; done))
abbrev rmX4_copy : Room := { frames := 2, cells := 0, slots := 0, locals := 45 }
theorem cp_X4_copy : CP yX4_copy RX4 wsX4_copy 7 5 rmX4_copy := ⟨⟨_, _, _, rfl⟩, rfl, rfl, by decide +kernel⟩
theorem inc_X4_copy_4 : ∀ w ∈ u_ws RX4 TX4 19, w ∈ wsX4_copy := by decide +kernel
set_option maxHeartbeats 4000000 in
set_option maxRecDepth 100000 in
theorem c_X4_copybad (l : Launch) (E : EV) (x : Int32) (f : Int32) (y : Int32) (g : Int32) (n0 : Int32) (o : Nat → Nat) (ik : Int32) (be : Int32) (so : Int32) (tp : Int32) (fr : Int32) (tq : Int32) (vl : Int32) (wr : Int32) (stt : Nat → Int32) (h1 : (inI x 0 3 && inI y 0 3) = false) : CI l yX4_copy wsX4_copy rmX4_copy E [.ref (o 0), .int x, .int f, .int y, .int g, .int n0] [(o 0, moO o ik be so tp fr tq vl wr), (o 5, arI E 7 stt)] [(o 0, moO o ik be so tp fr tq vl wr), (o 5, arI E 7 (upd stt 0 (stt 0 + 1)))] ((-1000000001)) := by
  refine CI.of (own := RX4) (cc := cX4_copy) (nL := 7) (rt := (some .int)) (by decide) rfl rfl (Nat.le_of_ble_eq_true rfl) (fun X hX hQ => ?_)
  show G E X 7 0 [(0, .ref (o 0)), (1, .int x), (2, .int f), (3, .int y), (4, .int g), (5, .int n0)] [] [(o 0, moO o ik be so tp fr tq vl wr), (o 5, arI E 7 stt)]
  refine G.iload_n hX 1 rfl dX4_copy_0 ?_
  refine G.s0i hX (As := [.int x]) (st := []) (c_X4_isOne _ E (x := x) ) gX4_copy_X4_isOne cp_X4_isOne (by decide) rfl rfl (Nat.le_of_ble_eq_true rfl) dX4_copy_1 ?_
  refine G.b_eq hX (tgt := 14) (by decide) dX4_copy_4 (fun c4 => ?_) (fun c4 => ?_)
  · refine G.aload_n hX 0 rfl dX4_copy_14 ?_
    refine G.ldc hX (v := -1000000001) (by decide +kernel) dX4_copy_15 ?_
    refine G.vi hX (As := [.int ((-1000000001))]) (st := []) (wr := []) (wf := [(o 0, moO o ik be so tp fr tq vl wr), (o 5, arI E 7 (upd stt 0 (stt 0 + 1)))]) (q0 := 0) (ci := 4) rfl rfl (c_X4_finds0 _ E (o := o) (ik := ik) (be := be) (so := so) (tp := tp) (fr := fr) (tq := tq) (vl := vl) (wr := wr) (stt := stt) ) gX4_copy_X4_finds cp_X4_finds (by decide) [0, 1] [] [0, 1] ⟨rfl, rfl, by decide, rfl⟩ rfl rfl (Nat.le_of_ble_eq_true rfl) dX4_copy_17 ?_
    exact G.iret hX hQ dX4_copy_20 (by rfl) (by rfl)
  · refine G.iload_n hX 3 rfl dX4_copy_7 ?_
    refine G.s0i hX (As := [.int y]) (st := []) (c_X4_isOne _ E (x := y) ) gX4_copy_X4_isOne cp_X4_isOne (by decide) rfl rfl (Nat.le_of_ble_eq_true rfl) dX4_copy_8 ?_
    refine G.b_ne hX (tgt := 21) (by decide) dX4_copy_11 (fun c11 => ?_) (fun c11 => ?_)
    · exact absurd h1 (by simp [c4, c11])
    · refine G.aload_n hX 0 rfl dX4_copy_14 ?_
      refine G.ldc hX (v := -1000000001) (by decide +kernel) dX4_copy_15 ?_
      refine G.vi hX (As := [.int ((-1000000001))]) (st := []) (wr := []) (wf := [(o 0, moO o ik be so tp fr tq vl wr), (o 5, arI E 7 (upd stt 0 (stt 0 + 1)))]) (q0 := 0) (ci := 4) rfl rfl (c_X4_finds0 _ E (o := o) (ik := ik) (be := be) (so := so) (tp := tp) (fr := fr) (tq := tq) (vl := vl) (wr := wr) (stt := stt) ) gX4_copy_X4_finds cp_X4_finds (by decide) [0, 1] [] [0, 1] ⟨rfl, rfl, by decide, rfl⟩ rfl rfl (Nat.le_of_ble_eq_true rfl) dX4_copy_17 ?_
      exact G.iret hX hQ dX4_copy_20 (by rfl) (by rfl)
set_option maxHeartbeats 4000000 in
set_option maxRecDepth 100000 in
theorem c_X4_copymis (l : Launch) (E : EV) (a : Nat) (b : Nat) (f : Int32) (g : Int32) (n0 : Int32) (o : Nat → Nat) (ik : Int32) (be : Int32) (so : Int32) (tp : Int32) (fr : Int32) (tq : Int32) (vl : Int32) (wr : Int32) (stt : Nat → Int32) (bo : Nat → Int32) (h1 : a < 4) (h2 : b < 4) (h3 : bo a = 0 ∨ bo b = 0) : CI l yX4_copy wsX4_copy rmX4_copy E [.ref (o 0), .int (nI a), .int f, .int (nI b), .int g, .int n0] [(o 0, moO o ik be so tp fr tq vl wr), (o 5, arI E 7 stt), (o 8, arI E 4 bo)] [(o 0, moO o ik be so tp fr tq vl wr), (o 5, arI E 7 (upd stt 5 (stt 5 + 1))), (o 8, arI E 4 bo)] ((-1000000006)) := by
  refine CI.of (own := RX4) (cc := cX4_copy) (nL := 7) (rt := (some .int)) (by decide) rfl rfl (Nat.le_of_ble_eq_true rfl) (fun X hX hQ => ?_)
  show G E X 7 0 [(0, .ref (o 0)), (1, .int (nI a)), (2, .int f), (3, .int (nI b)), (4, .int g), (5, .int n0)] [] [(o 0, moO o ik be so tp fr tq vl wr), (o 5, arI E 7 stt), (o 8, arI E 4 bo)]
  refine G.iload_n hX 1 rfl dX4_copy_0 ?_
  refine G.s0i hX (As := [.int (nI a)]) (st := []) (c_X4_isOnen _ E (x := a) (h1 := by omega)) gX4_copy_X4_isOne cp_X4_isOne (by decide) rfl rfl (Nat.le_of_ble_eq_true rfl) dX4_copy_1 ?_
  refine G.if_eq hX (tgt := 14) (by decide) dX4_copy_4 (fun c4 => absurd c4 (by decide)) (fun _ => ?_)
  refine G.iload_n hX 3 rfl dX4_copy_7 ?_
  refine G.s0i hX (As := [.int (nI b)]) (st := []) (c_X4_isOnen _ E (x := b) (h1 := by omega)) gX4_copy_X4_isOne cp_X4_isOne (by decide) rfl rfl (Nat.le_of_ble_eq_true rfl) dX4_copy_8 ?_
  refine G.if_ne hX (tgt := 21) (by decide) dX4_copy_11 (fun _ => ?_) (fun c11 => absurd c11 (by decide))
  refine G.aload_n hX 0 rfl dX4_copy_21 ?_
  refine G.get hX inc_X4_copy_4 0 rfl rfl 15 (by decide) (by decide +kernel) rfl dX4_copy_22 ?_
  refine G.iload_n hX 1 rfl dX4_copy_25 ?_
  refine G.iald hX (j := a) 2 rfl (by omega) (by omega) dX4_copy_26 ?_
  refine G.if_eq hX (tgt := 39) (by decide) dX4_copy_27 (fun c27 => ?_) (fun c27 => ?_)
  · refine G.aload_n hX 0 rfl dX4_copy_39 ?_
    refine G.ldcw hX (v := -1000000006) (by decide +kernel) dX4_copy_40 ?_
    refine G.vi hX (As := [.int ((-1000000006))]) (st := []) (wr := [(o 8, arI E 4 bo)]) (wf := [(o 0, moO o ik be so tp fr tq vl wr), (o 5, arI E 7 (upd stt 5 (stt 5 + 1))), (o 8, arI E 4 bo)]) (q0 := 0) (ci := 4) rfl rfl (c_X4_finds5 _ E (o := o) (ik := ik) (be := be) (so := so) (tp := tp) (fr := fr) (tq := tq) (vl := vl) (wr := wr) (stt := stt) ) gX4_copy_X4_finds cp_X4_finds (by decide) [0, 1] [2] [1, 2, 0] ⟨rfl, rfl, by decide, rfl⟩ rfl rfl (Nat.le_of_ble_eq_true rfl) dX4_copy_43 ?_
    exact G.iret hX hQ dX4_copy_46 (by rfl) (by rfl)
  · refine G.aload_n hX 0 rfl dX4_copy_30 ?_
    refine G.get hX inc_X4_copy_4 0 rfl rfl 15 (by decide) (by decide +kernel) rfl dX4_copy_31 ?_
    refine G.iload_n hX 3 rfl dX4_copy_34 ?_
    refine G.iald hX (j := b) 2 rfl (by omega) (by omega) dX4_copy_35 ?_
    refine G.if_ne hX (tgt := 47) (by decide) dX4_copy_36 (fun c36 => ?_) (fun c36 => ?_)
    · exact absurd h3 (by simp [c27, c36])
    · refine G.aload_n hX 0 rfl dX4_copy_39 ?_
      refine G.ldcw hX (v := -1000000006) (by decide +kernel) dX4_copy_40 ?_
      refine G.vi hX (As := [.int ((-1000000006))]) (st := []) (wr := [(o 8, arI E 4 bo)]) (wf := [(o 0, moO o ik be so tp fr tq vl wr), (o 5, arI E 7 (upd stt 5 (stt 5 + 1))), (o 8, arI E 4 bo)]) (q0 := 0) (ci := 4) rfl rfl (c_X4_finds5 _ E (o := o) (ik := ik) (be := be) (so := so) (tp := tp) (fr := fr) (tq := tq) (vl := vl) (wr := wr) (stt := stt) ) gX4_copy_X4_finds cp_X4_finds (by decide) [0, 1] [2] [1, 2, 0] ⟨rfl, rfl, by decide, rfl⟩ rfl rfl (Nat.le_of_ble_eq_true rfl) dX4_copy_43 ?_
      exact G.iret hX hQ dX4_copy_46 (by rfl) (by rfl)
set_option maxHeartbeats 4000000 in
set_option maxRecDepth 100000 in
theorem c_X4_copykin (l : Launch) (E : EV) (a : Nat) (b : Nat) (f : Int32) (g : Int32) (n0 : Int32) (o : Nat → Nat) (ik : Int32) (be : Int32) (so : Int32) (tp : Int32) (fr : Int32) (tq : Int32) (vl : Int32) (wr : Int32) (stt : Nat → Int32) (bo : Nat → Int32) (h1 : a < 4) (h2 : b < 4) (h3 : ¬ bo a = 0) (h4 : ¬ bo b = 0) (h5 : ¬ bo a = bo b) : CI l yX4_copy wsX4_copy rmX4_copy E [.ref (o 0), .int (nI a), .int f, .int (nI b), .int g, .int n0] [(o 0, moO o ik be so tp fr tq vl wr), (o 5, arI E 7 stt), (o 8, arI E 4 bo)] [(o 0, moO o ik be so tp fr tq vl wr), (o 5, arI E 7 (upd stt 2 (stt 2 + 1))), (o 8, arI E 4 bo)] ((-1000000003)) := by
  refine CI.of (own := RX4) (cc := cX4_copy) (nL := 7) (rt := (some .int)) (by decide) rfl rfl (Nat.le_of_ble_eq_true rfl) (fun X hX hQ => ?_)
  show G E X 7 0 [(0, .ref (o 0)), (1, .int (nI a)), (2, .int f), (3, .int (nI b)), (4, .int g), (5, .int n0)] [] [(o 0, moO o ik be so tp fr tq vl wr), (o 5, arI E 7 stt), (o 8, arI E 4 bo)]
  refine G.iload_n hX 1 rfl dX4_copy_0 ?_
  refine G.s0i hX (As := [.int (nI a)]) (st := []) (c_X4_isOnen _ E (x := a) (h1 := by omega)) gX4_copy_X4_isOne cp_X4_isOne (by decide) rfl rfl (Nat.le_of_ble_eq_true rfl) dX4_copy_1 ?_
  refine G.if_eq hX (tgt := 14) (by decide) dX4_copy_4 (fun c4 => absurd c4 (by decide)) (fun _ => ?_)
  refine G.iload_n hX 3 rfl dX4_copy_7 ?_
  refine G.s0i hX (As := [.int (nI b)]) (st := []) (c_X4_isOnen _ E (x := b) (h1 := by omega)) gX4_copy_X4_isOne cp_X4_isOne (by decide) rfl rfl (Nat.le_of_ble_eq_true rfl) dX4_copy_8 ?_
  refine G.if_ne hX (tgt := 21) (by decide) dX4_copy_11 (fun _ => ?_) (fun c11 => absurd c11 (by decide))
  refine G.aload_n hX 0 rfl dX4_copy_21 ?_
  refine G.get hX inc_X4_copy_4 0 rfl rfl 15 (by decide) (by decide +kernel) rfl dX4_copy_22 ?_
  refine G.iload_n hX 1 rfl dX4_copy_25 ?_
  refine G.iald hX (j := a) 2 rfl (by omega) (by omega) dX4_copy_26 ?_
  refine G.if_eq hX (tgt := 39) (by decide) dX4_copy_27 (fun c27 => ?_) (fun c27 => ?_)
  · first | exact absurd c27 h3 | exact absurd c27 h4
  · refine G.aload_n hX 0 rfl dX4_copy_30 ?_
    refine G.get hX inc_X4_copy_4 0 rfl rfl 15 (by decide) (by decide +kernel) rfl dX4_copy_31 ?_
    refine G.iload_n hX 3 rfl dX4_copy_34 ?_
    refine G.iald hX (j := b) 2 rfl (by omega) (by omega) dX4_copy_35 ?_
    refine G.if_ne hX (tgt := 47) (by decide) dX4_copy_36 (fun c36 => ?_) (fun c36 => ?_)
    · refine G.aload_n hX 0 rfl dX4_copy_47 ?_
      refine G.get hX inc_X4_copy_4 0 rfl rfl 15 (by decide) (by decide +kernel) rfl dX4_copy_48 ?_
      refine G.iload_n hX 1 rfl dX4_copy_51 ?_
      refine G.iald hX (j := a) 2 rfl (by omega) (by omega) dX4_copy_52 ?_
      refine G.aload_n hX 0 rfl dX4_copy_53 ?_
      refine G.get hX inc_X4_copy_4 0 rfl rfl 15 (by decide) (by decide +kernel) rfl dX4_copy_54 ?_
      refine G.iload_n hX 3 rfl dX4_copy_57 ?_
      refine G.iald hX (j := b) 2 rfl (by omega) (by omega) dX4_copy_58 ?_
      refine G.icmp_eq hX (tgt := 69) (by decide) dX4_copy_59 (fun c59 => ?_) (fun c59 => ?_)
      · exact absurd c59 h5
      · refine G.aload_n hX 0 rfl dX4_copy_62 ?_
        refine G.ldc hX (v := -1000000003) (by decide +kernel) dX4_copy_63 ?_
        refine G.vi hX (As := [.int ((-1000000003))]) (st := []) (wr := [(o 8, arI E 4 bo)]) (wf := [(o 0, moO o ik be so tp fr tq vl wr), (o 5, arI E 7 (upd stt 2 (stt 2 + 1))), (o 8, arI E 4 bo)]) (q0 := 0) (ci := 4) rfl rfl (c_X4_finds2 _ E (o := o) (ik := ik) (be := be) (so := so) (tp := tp) (fr := fr) (tq := tq) (vl := vl) (wr := wr) (stt := stt) ) gX4_copy_X4_finds cp_X4_finds (by decide) [0, 1] [2] [1, 2, 0] ⟨rfl, rfl, by decide, rfl⟩ rfl rfl (Nat.le_of_ble_eq_true rfl) dX4_copy_65 ?_
        exact G.iret hX hQ dX4_copy_68 (by rfl) (by rfl)
    · first | exact absurd c36 h3 | exact absurd c36 h4
set_option maxHeartbeats 4000000 in
set_option maxRecDepth 100000 in
theorem c_X4_copybey (l : Launch) (E : EV) (a : Nat) (b : Nat) (f : Int32) (g : Int32) (n0 : Int32) (o : Nat → Nat) (ik : Int32) (be : Int32) (so : Int32) (tp : Int32) (fr : Int32) (tq : Int32) (vl : Int32) (wr : Int32) (stt : Nat → Int32) (bo : Nat → Int32) (szz : Nat → Int32) (h1 : a < 4) (h2 : b < 4) (h3 : ¬ bo a = 0) (h4 : bo a = bo b) (h5 : cpOK f g n0 (szz a) (szz b) = false) : CI l yX4_copy wsX4_copy rmX4_copy E [.ref (o 0), .int (nI a), .int f, .int (nI b), .int g, .int n0] [(o 0, moO o ik be so tp fr tq vl wr), (o 5, arI E 7 stt), (o 8, arI E 4 bo), (o 9, arI E 4 szz)] [(o 0, moO o ik be so tp fr tq vl wr), (o 5, arI E 7 (upd stt 0 (stt 0 + 1))), (o 8, arI E 4 bo), (o 9, arI E 4 szz)] ((-1000000001)) := by
  refine CI.of (own := RX4) (cc := cX4_copy) (nL := 7) (rt := (some .int)) (by decide) rfl rfl (Nat.le_of_ble_eq_true rfl) (fun X hX hQ => ?_)
  show G E X 7 0 [(0, .ref (o 0)), (1, .int (nI a)), (2, .int f), (3, .int (nI b)), (4, .int g), (5, .int n0)] [] [(o 0, moO o ik be so tp fr tq vl wr), (o 5, arI E 7 stt), (o 8, arI E 4 bo), (o 9, arI E 4 szz)]
  refine G.iload_n hX 1 rfl dX4_copy_0 ?_
  refine G.s0i hX (As := [.int (nI a)]) (st := []) (c_X4_isOnen _ E (x := a) (h1 := by omega)) gX4_copy_X4_isOne cp_X4_isOne (by decide) rfl rfl (Nat.le_of_ble_eq_true rfl) dX4_copy_1 ?_
  refine G.if_eq hX (tgt := 14) (by decide) dX4_copy_4 (fun c4 => absurd c4 (by decide)) (fun _ => ?_)
  refine G.iload_n hX 3 rfl dX4_copy_7 ?_
  refine G.s0i hX (As := [.int (nI b)]) (st := []) (c_X4_isOnen _ E (x := b) (h1 := by omega)) gX4_copy_X4_isOne cp_X4_isOne (by decide) rfl rfl (Nat.le_of_ble_eq_true rfl) dX4_copy_8 ?_
  refine G.if_ne hX (tgt := 21) (by decide) dX4_copy_11 (fun _ => ?_) (fun c11 => absurd c11 (by decide))
  refine G.aload_n hX 0 rfl dX4_copy_21 ?_
  refine G.get hX inc_X4_copy_4 0 rfl rfl 15 (by decide) (by decide +kernel) rfl dX4_copy_22 ?_
  refine G.iload_n hX 1 rfl dX4_copy_25 ?_
  refine G.iald hX (j := a) 2 rfl (by omega) (by omega) dX4_copy_26 ?_
  refine G.if_eq hX (tgt := 39) (by decide) dX4_copy_27 (fun c27 => ?_) (fun c27 => ?_)
  · first | exact absurd c27 h3 | exact absurd (h4.trans c27) h3
  · refine G.aload_n hX 0 rfl dX4_copy_30 ?_
    refine G.get hX inc_X4_copy_4 0 rfl rfl 15 (by decide) (by decide +kernel) rfl dX4_copy_31 ?_
    refine G.iload_n hX 3 rfl dX4_copy_34 ?_
    refine G.iald hX (j := b) 2 rfl (by omega) (by omega) dX4_copy_35 ?_
    refine G.if_ne hX (tgt := 47) (by decide) dX4_copy_36 (fun c36 => ?_) (fun c36 => ?_)
    · refine G.aload_n hX 0 rfl dX4_copy_47 ?_
      refine G.get hX inc_X4_copy_4 0 rfl rfl 15 (by decide) (by decide +kernel) rfl dX4_copy_48 ?_
      refine G.iload_n hX 1 rfl dX4_copy_51 ?_
      refine G.iald hX (j := a) 2 rfl (by omega) (by omega) dX4_copy_52 ?_
      refine G.aload_n hX 0 rfl dX4_copy_53 ?_
      refine G.get hX inc_X4_copy_4 0 rfl rfl 15 (by decide) (by decide +kernel) rfl dX4_copy_54 ?_
      refine G.iload_n hX 3 rfl dX4_copy_57 ?_
      refine G.iald hX (j := b) 2 rfl (by omega) (by omega) dX4_copy_58 ?_
      refine G.icmp_eq hX (tgt := 69) (by decide) dX4_copy_59 (fun c59 => ?_) (fun c59 => ?_)
      · refine G.iload_n hX 2 rfl dX4_copy_69 ?_
        refine G.if_lt hX (tgt := 110) (by decide) dX4_copy_70 (fun c70 => ?_) (fun c70 => ?_)
        · refine G.aload_n hX 0 rfl dX4_copy_110 ?_
          refine G.ldc hX (v := -1000000001) (by decide +kernel) dX4_copy_111 ?_
          refine G.vi hX (As := [.int ((-1000000001))]) (st := []) (wr := [(o 8, arI E 4 bo), (o 9, arI E 4 szz)]) (wf := [(o 0, moO o ik be so tp fr tq vl wr), (o 5, arI E 7 (upd stt 0 (stt 0 + 1))), (o 8, arI E 4 bo), (o 9, arI E 4 szz)]) (q0 := 0) (ci := 4) rfl rfl (c_X4_finds0 _ E (o := o) (ik := ik) (be := be) (so := so) (tp := tp) (fr := fr) (tq := tq) (vl := vl) (wr := wr) (stt := stt) ) gX4_copy_X4_finds cp_X4_finds (by decide) [0, 1] [2, 3] [2, 3, 0, 1] ⟨rfl, rfl, by decide, rfl⟩ rfl rfl (Nat.le_of_ble_eq_true rfl) dX4_copy_113 ?_
          exact G.iret hX hQ dX4_copy_116 (by rfl) (by rfl)
        · refine G.iload hX 4 rfl dX4_copy_73 ?_
          refine G.if_lt hX (tgt := 110) (by decide) dX4_copy_75 (fun c75 => ?_) (fun c75 => ?_)
          · refine G.aload_n hX 0 rfl dX4_copy_110 ?_
            refine G.ldc hX (v := -1000000001) (by decide +kernel) dX4_copy_111 ?_
            refine G.vi hX (As := [.int ((-1000000001))]) (st := []) (wr := [(o 8, arI E 4 bo), (o 9, arI E 4 szz)]) (wf := [(o 0, moO o ik be so tp fr tq vl wr), (o 5, arI E 7 (upd stt 0 (stt 0 + 1))), (o 8, arI E 4 bo), (o 9, arI E 4 szz)]) (q0 := 0) (ci := 4) rfl rfl (c_X4_finds0 _ E (o := o) (ik := ik) (be := be) (so := so) (tp := tp) (fr := fr) (tq := tq) (vl := vl) (wr := wr) (stt := stt) ) gX4_copy_X4_finds cp_X4_finds (by decide) [0, 1] [2, 3] [2, 3, 0, 1] ⟨rfl, rfl, by decide, rfl⟩ rfl rfl (Nat.le_of_ble_eq_true rfl) dX4_copy_113 ?_
            exact G.iret hX hQ dX4_copy_116 (by rfl) (by rfl)
          · refine G.iload hX 5 rfl dX4_copy_78 ?_
            refine G.if_lt hX (tgt := 110) (by decide) dX4_copy_80 (fun c80 => ?_) (fun c80 => ?_)
            · refine G.aload_n hX 0 rfl dX4_copy_110 ?_
              refine G.ldc hX (v := -1000000001) (by decide +kernel) dX4_copy_111 ?_
              refine G.vi hX (As := [.int ((-1000000001))]) (st := []) (wr := [(o 8, arI E 4 bo), (o 9, arI E 4 szz)]) (wf := [(o 0, moO o ik be so tp fr tq vl wr), (o 5, arI E 7 (upd stt 0 (stt 0 + 1))), (o 8, arI E 4 bo), (o 9, arI E 4 szz)]) (q0 := 0) (ci := 4) rfl rfl (c_X4_finds0 _ E (o := o) (ik := ik) (be := be) (so := so) (tp := tp) (fr := fr) (tq := tq) (vl := vl) (wr := wr) (stt := stt) ) gX4_copy_X4_finds cp_X4_finds (by decide) [0, 1] [2, 3] [2, 3, 0, 1] ⟨rfl, rfl, by decide, rfl⟩ rfl rfl (Nat.le_of_ble_eq_true rfl) dX4_copy_113 ?_
              exact G.iret hX hQ dX4_copy_116 (by rfl) (by rfl)
            · refine G.iload hX 5 rfl dX4_copy_83 ?_
              refine G.aload_n hX 0 rfl dX4_copy_85 ?_
              refine G.get hX inc_X4_copy_4 0 rfl rfl 16 (by decide) (by decide +kernel) rfl dX4_copy_86 ?_
              refine G.iload_n hX 1 rfl dX4_copy_89 ?_
              refine G.iald hX (j := a) 3 rfl (by omega) (by omega) dX4_copy_90 ?_
              refine G.iload_n hX 2 rfl dX4_copy_91 ?_
              refine G.isub hX dX4_copy_92 ?_
              refine G.icmp_gt hX (tgt := 110) (by decide) dX4_copy_93 (fun c93 => ?_) (fun c93 => ?_)
              · refine G.aload_n hX 0 rfl dX4_copy_110 ?_
                refine G.ldc hX (v := -1000000001) (by decide +kernel) dX4_copy_111 ?_
                refine G.vi hX (As := [.int ((-1000000001))]) (st := []) (wr := [(o 8, arI E 4 bo), (o 9, arI E 4 szz)]) (wf := [(o 0, moO o ik be so tp fr tq vl wr), (o 5, arI E 7 (upd stt 0 (stt 0 + 1))), (o 8, arI E 4 bo), (o 9, arI E 4 szz)]) (q0 := 0) (ci := 4) rfl rfl (c_X4_finds0 _ E (o := o) (ik := ik) (be := be) (so := so) (tp := tp) (fr := fr) (tq := tq) (vl := vl) (wr := wr) (stt := stt) ) gX4_copy_X4_finds cp_X4_finds (by decide) [0, 1] [2, 3] [2, 3, 0, 1] ⟨rfl, rfl, by decide, rfl⟩ rfl rfl (Nat.le_of_ble_eq_true rfl) dX4_copy_113 ?_
                exact G.iret hX hQ dX4_copy_116 (by rfl) (by rfl)
              · refine G.iload hX 5 rfl dX4_copy_96 ?_
                refine G.aload_n hX 0 rfl dX4_copy_98 ?_
                refine G.get hX inc_X4_copy_4 0 rfl rfl 16 (by decide) (by decide +kernel) rfl dX4_copy_99 ?_
                refine G.iload_n hX 3 rfl dX4_copy_102 ?_
                refine G.iald hX (j := b) 3 rfl (by omega) (by omega) dX4_copy_103 ?_
                refine G.iload hX 4 rfl dX4_copy_104 ?_
                refine G.isub hX dX4_copy_106 ?_
                refine G.icmp_le hX (tgt := 117) (by decide) dX4_copy_107 (fun c107 => ?_) (fun c107 => ?_)
                · exact absurd h5 (by simp [cpOK, c27, c36, c59, c70, c75, c80, c93, c107])
                · refine G.aload_n hX 0 rfl dX4_copy_110 ?_
                  refine G.ldc hX (v := -1000000001) (by decide +kernel) dX4_copy_111 ?_
                  refine G.vi hX (As := [.int ((-1000000001))]) (st := []) (wr := [(o 8, arI E 4 bo), (o 9, arI E 4 szz)]) (wf := [(o 0, moO o ik be so tp fr tq vl wr), (o 5, arI E 7 (upd stt 0 (stt 0 + 1))), (o 8, arI E 4 bo), (o 9, arI E 4 szz)]) (q0 := 0) (ci := 4) rfl rfl (c_X4_finds0 _ E (o := o) (ik := ik) (be := be) (so := so) (tp := tp) (fr := fr) (tq := tq) (vl := vl) (wr := wr) (stt := stt) ) gX4_copy_X4_finds cp_X4_finds (by decide) [0, 1] [2, 3] [2, 3, 0, 1] ⟨rfl, rfl, by decide, rfl⟩ rfl rfl (Nat.le_of_ble_eq_true rfl) dX4_copy_113 ?_
                  exact G.iret hX hQ dX4_copy_116 (by rfl) (by rfl)
      · exact absurd h4 c59
    · first | exact absurd c36 h3 | exact absurd (h4.trans c36) h3
set_option maxHeartbeats 4000000 in
set_option maxRecDepth 100000 in
theorem c_X4_copyok (l : Launch) (E : EV) (a : Nat) (b : Nat) (f : Nat) (g : Nat) (n0 : Nat) (za : Nat) (zb : Nat) (o : Nat → Nat) (ik : Int32) (be : Int32) (so : Int32) (tp : Int32) (fr : Int32) (tq : Int32) (vl : Int32) (wr : Int32) (bo : Nat → Int32) (szz : Nat → Int32) (nu : Nat → Int64) (mv : Nat → Int64) (h1 : a < 4) (h2 : b < 4) (h3 : ¬ bo a = 0) (h4 : bo a = bo b) (h5 : szz a = nI za) (h6 : szz b = nI zb) (h7 : za ≤ 40) (h8 : zb ≤ 40) (h9 : f + n0 ≤ za) (h10 : g + n0 ≤ zb) : CI l yX4_copy wsX4_copy rmX4_copy E [.ref (o 0), .int (nI a), .int (nI f), .int (nI b), .int (nI g), .int (nI n0)] [(o 0, moO o ik be so tp fr tq vl wr), (o 8, arI E 4 bo), (o 9, arI E 4 szz), (o 10, arJ E 160 nu), (o 11, arJ E 40 mv)] [(o 0, moO o ik be so tp fr tq vl wr), (o 8, arI E 4 bo), (o 9, arI E 4 szz), (o 10, arJ E 160 (ptN (40 * b + g) n0 (shL nu (40 * a + f)) nu)), (o 11, arJ E 40 (cpL n0 (shL nu (40 * a + f)) mv))] (nI n0) := by
  refine CI.of (own := RX4) (cc := cX4_copy) (nL := 7) (rt := (some .int)) (by decide) rfl rfl (Nat.le_of_ble_eq_true rfl) (fun X hX hQ => ?_)
  show G E X 7 0 [(0, .ref (o 0)), (1, .int (nI a)), (2, .int (nI f)), (3, .int (nI b)), (4, .int (nI g)), (5, .int (nI n0))] [] [(o 0, moO o ik be so tp fr tq vl wr), (o 8, arI E 4 bo), (o 9, arI E 4 szz), (o 10, arJ E 160 nu), (o 11, arJ E 40 mv)]
  refine G.iload_n hX 1 rfl dX4_copy_0 ?_
  refine G.s0i hX (As := [.int (nI a)]) (st := []) (c_X4_isOnen _ E (x := a) (h1 := by omega)) gX4_copy_X4_isOne cp_X4_isOne (by decide) rfl rfl (Nat.le_of_ble_eq_true rfl) dX4_copy_1 ?_
  refine G.if_eq hX (tgt := 14) (by decide) dX4_copy_4 (fun c4 => absurd c4 (by decide)) (fun _ => ?_)
  refine G.iload_n hX 3 rfl dX4_copy_7 ?_
  refine G.s0i hX (As := [.int (nI b)]) (st := []) (c_X4_isOnen _ E (x := b) (h1 := by omega)) gX4_copy_X4_isOne cp_X4_isOne (by decide) rfl rfl (Nat.le_of_ble_eq_true rfl) dX4_copy_8 ?_
  refine G.if_ne hX (tgt := 21) (by decide) dX4_copy_11 (fun _ => ?_) (fun c11 => absurd c11 (by decide))
  refine G.aload_n hX 0 rfl dX4_copy_21 ?_
  refine G.get hX inc_X4_copy_4 0 rfl rfl 15 (by decide) (by decide +kernel) rfl dX4_copy_22 ?_
  refine G.iload_n hX 1 rfl dX4_copy_25 ?_
  refine G.iald hX (j := a) 1 rfl (by omega) (by omega) dX4_copy_26 ?_
  refine G.if_eq hX (tgt := 39) (by decide) dX4_copy_27 (fun c27 => ?_) (fun c27 => ?_)
  · first | exact absurd c27 h3 | exact absurd (h4.trans c27) h3
  · refine G.aload_n hX 0 rfl dX4_copy_30 ?_
    refine G.get hX inc_X4_copy_4 0 rfl rfl 15 (by decide) (by decide +kernel) rfl dX4_copy_31 ?_
    refine G.iload_n hX 3 rfl dX4_copy_34 ?_
    refine G.iald hX (j := b) 1 rfl (by omega) (by omega) dX4_copy_35 ?_
    refine G.if_ne hX (tgt := 47) (by decide) dX4_copy_36 (fun c36 => ?_) (fun c36 => ?_)
    · refine G.aload_n hX 0 rfl dX4_copy_47 ?_
      refine G.get hX inc_X4_copy_4 0 rfl rfl 15 (by decide) (by decide +kernel) rfl dX4_copy_48 ?_
      refine G.iload_n hX 1 rfl dX4_copy_51 ?_
      refine G.iald hX (j := a) 1 rfl (by omega) (by omega) dX4_copy_52 ?_
      refine G.aload_n hX 0 rfl dX4_copy_53 ?_
      refine G.get hX inc_X4_copy_4 0 rfl rfl 15 (by decide) (by decide +kernel) rfl dX4_copy_54 ?_
      refine G.iload_n hX 3 rfl dX4_copy_57 ?_
      refine G.iald hX (j := b) 1 rfl (by omega) (by omega) dX4_copy_58 ?_
      refine G.icmp_eq hX (tgt := 69) (by decide) dX4_copy_59 (fun c59 => ?_) (fun c59 => ?_)
      · refine G.iload_n hX 2 rfl dX4_copy_69 ?_
        refine G.if_lt hX (tgt := 110) (by decide) dX4_copy_70 (fun c70 => absurd c70 (nI_pos (by omega))) (fun _ => ?_)
        refine G.iload hX 4 rfl dX4_copy_73 ?_
        refine G.if_lt hX (tgt := 110) (by decide) dX4_copy_75 (fun c75 => absurd c75 (nI_pos (by omega))) (fun _ => ?_)
        refine G.iload hX 5 rfl dX4_copy_78 ?_
        refine G.if_lt hX (tgt := 110) (by decide) dX4_copy_80 (fun c80 => absurd c80 (nI_pos (by omega))) (fun _ => ?_)
        refine G.iload hX 5 rfl dX4_copy_83 ?_
        refine G.aload_n hX 0 rfl dX4_copy_85 ?_
        refine G.get hX inc_X4_copy_4 0 rfl rfl 16 (by decide) (by decide +kernel) rfl dX4_copy_86 ?_
        refine G.iload_n hX 1 rfl dX4_copy_89 ?_
        refine G.iald hX (j := a) 2 rfl (by omega) (by omega) dX4_copy_90 ?_
        refine G.ie (y := nI za) (by exact h5) ?_
        refine G.iload_n hX 2 rfl dX4_copy_91 ?_
        refine G.isub hX dX4_copy_92 ?_
        refine G.ie (pk_sub (a := za) (b := f) (by omega)) ?_
        refine G.n_gt hX (a := n0) (b := za - f) (tgt := 110) (by omega) (by omega) (by decide) dX4_copy_93 (fun c93 => ?_) (fun c93 => ?_)
        · exact absurd c93 (by omega)
        · refine G.iload hX 5 rfl dX4_copy_96 ?_
          refine G.aload_n hX 0 rfl dX4_copy_98 ?_
          refine G.get hX inc_X4_copy_4 0 rfl rfl 16 (by decide) (by decide +kernel) rfl dX4_copy_99 ?_
          refine G.iload_n hX 3 rfl dX4_copy_102 ?_
          refine G.iald hX (j := b) 2 rfl (by omega) (by omega) dX4_copy_103 ?_
          refine G.ie (y := nI zb) (by exact h6) ?_
          refine G.iload hX 4 rfl dX4_copy_104 ?_
          refine G.isub hX dX4_copy_106 ?_
          refine G.ie (pk_sub (a := zb) (b := g) (by omega)) ?_
          refine G.n_le hX (a := n0) (b := zb - g) (tgt := 117) (by omega) (by omega) (by decide) dX4_copy_107 (fun c107 => ?_) (fun c107 => ?_)
          · refine G.iconst hX (v := 0) (by decide) dX4_copy_117 ?_
            refine G.istore hX (lv' := [(6, .int 0), (0, .ref (o 0)), (1, .int (nI a)), (2, .int (nI f)), (3, .int (nI b)), (4, .int (nI g)), (5, .int (nI n0))]) (by decide) rfl dX4_copy_118 ?_
            have L120 : ∀ (n : Nat) (k : Nat), k ≤ n0 → n0 + 1 ≤ k + n → G E X 7 120 [(0, .ref (o 0)), (1, .int (nI a)), (2, .int (nI f)), (3, .int (nI b)), (4, .int (nI g)), (5, .int (nI n0)), (6, .int (nI k))] [] [(o 0, moO o ik be so tp fr tq vl wr), (o 8, arI E 4 bo), (o 9, arI E 4 szz), (o 10, arJ E 160 nu), (o 11, arJ E 40 (cpL k (shL nu (40 * a + f)) mv))] := by
              intro n
              induction n with
              | zero => intro k hl120_0 hl120_1; exact absurd hl120_1 (by omega)
              | succ n ih120 =>
                intro k hl120_0 hl120_1
                refine G.iload hX 6 rfl dX4_copy_120 ?_
                refine G.iload hX 5 rfl dX4_copy_122 ?_
                refine G.n_ge hX (a := k) (b := n0) (tgt := 154) (by omega) (by omega) (by decide) dX4_copy_124 (fun c124 => ?_) (fun c124 => ?_)
                · obtain rfl : n0 = k := by omega
                  refine G.iconst hX (v := 0) (by decide) dX4_copy_154 ?_
                  refine G.istore hX (lv' := [(6, .int 0), (0, .ref (o 0)), (1, .int (nI a)), (2, .int (nI f)), (3, .int (nI b)), (4, .int (nI g)), (5, .int (nI n0))]) (by decide) rfl dX4_copy_155 ?_
                  have L157 : ∀ (n : Nat) (k2 : Nat), k2 ≤ n0 → n0 + 1 ≤ k2 + n → G E X 7 157 [(0, .ref (o 0)), (3, .int (nI b)), (4, .int (nI g)), (5, .int (nI n0)), (6, .int (nI k2))] [] [(o 0, moO o ik be so tp fr tq vl wr), (o 8, arI E 4 bo), (o 9, arI E 4 szz), (o 10, arJ E 160 (ptN (40 * b + g) k2 (shL nu (40 * a + f)) nu)), (o 11, arJ E 40 (cpL n0 (shL nu (40 * a + f)) mv))] := by
                    intro n
                    induction n with
                    | zero => intro k2 hl157_0 hl157_1; exact absurd hl157_1 (by omega)
                    | succ n ih157 =>
                      intro k2 hl157_0 hl157_1
                      refine G.iload hX 4 rfl dX4_copy_157 ?_
                      refine G.iload hX 3 rfl dX4_copy_159 ?_
                      refine G.n_ge hX (a := k2) (b := n0) (tgt := 192) (by omega) (by omega) (by decide) dX4_copy_161 (fun c161 => ?_) (fun c161 => ?_)
                      · refine G.iload hX 3 rfl dX4_copy_192 ?_
                        exact G.iret hX hQ dX4_copy_194 (by rfl) (by obtain rfl : k2 = n0 := (by omega); rfl)
                      · refine G.aload_n hX 0 rfl dX4_copy_164 ?_
                        refine G.get hX inc_X4_copy_4 0 rfl rfl 17 (by decide) (by decide +kernel) rfl dX4_copy_165 ?_
                        refine G.bipush hX (v := 40) (by decide) dX4_copy_168 ?_
                        refine G.iload_n hX 1 rfl dX4_copy_170 ?_
                        refine G.imul hX dX4_copy_171 ?_
                        refine G.ie (pk_mul 40 b) ?_
                        refine G.iload hX 2 rfl dX4_copy_172 ?_
                        refine G.iadd hX dX4_copy_174 ?_
                        refine G.ie (nI_add (40 * b) g) ?_
                        refine G.iload hX 4 rfl dX4_copy_175 ?_
                        refine G.iadd hX dX4_copy_177 ?_
                        refine G.ie (nI_add ((40 * b) + g) k2) ?_
                        refine G.aload_n hX 0 rfl dX4_copy_178 ?_
                        refine G.get hX inc_X4_copy_4 0 rfl rfl 18 (by decide) (by decide +kernel) rfl dX4_copy_179 ?_
                        refine G.iload hX 4 rfl dX4_copy_182 ?_
                        refine G.lald hX (j := k2) 4 rfl (by omega) (by omega) dX4_copy_184 ?_
                        refine G.le (y := shL nu (40 * a + f) k2) (by exact cpL_in (by omega)) ?_
                        refine G.last hX (j := ((40 * b) + g) + k2) (ws' := [(o 0, moO o ik be so tp fr tq vl wr), (o 8, arI E 4 bo), (o 9, arI E 4 szz), (o 10, arJ E 160 (vp_updL (ptN (40 * b + g) k2 (shL nu (40 * a + f)) nu) (((40 * b) + g) + k2) (shL nu (40 * a + f) k2))), (o 11, arJ E 40 (cpL n0 (shL nu (40 * a + f)) mv))]) 3 rfl (by omega) (by omega) rfl rfl dX4_copy_185 ?_
                        refine G.iinc hX (n := 1) (lv' := [(6, .int (nI (k2 + 1))), (0, .ref (o 0)), (3, .int (nI b)), (4, .int (nI g)), (5, .int (nI n0))]) 4 rfl (inc_nI k2 1 rfl) (by decide) rfl dX4_copy_186 ?_
                        refine G.goto hX (tgt := 157) (by decide) dX4_copy_189 ?_
                        refine G.lvp (lv' := [(0, .ref (o 0)), (3, .int (nI b)), (4, .int (nI g)), (5, .int (nI n0)), (6, .int (nI (k2 + 1)))]) [1, 2, 3, 4, 0] rfl ?_
                        refine G.lve (lv' := [(0, .ref (o 0)), (3, .int (nI b)), (4, .int (nI g)), (5, .int (nI n0)), (6, .int (nI ((k2 + 1))))]) (by rfl) ?_
                        refine G.we (ws' := [(o 0, moO o ik be so tp fr tq vl wr), (o 8, arI E 4 bo), (o 9, arI E 4 szz), (o 10, arJ E 160 (ptN (40 * b + g) (k2 + 1) (shL nu (40 * a + f)) nu)), (o 11, arJ E 40 (cpL n0 (shL nu (40 * a + f)) mv))]) (by rw [← ptN_s]; first | done | rfl) ?_
                        exact ih157 (k2 + 1) (by omega) (by omega)
                  refine G.lvp (lv' := [(0, .ref (o 0)), (3, .int (nI b)), (4, .int (nI g)), (5, .int (nI n0)), (6, .int 0)]) [1, 4, 5, 6, 0] rfl ?_
                  refine G.lve (lv' := [(0, .ref (o 0)), (3, .int (nI b)), (4, .int (nI g)), (5, .int (nI n0)), (6, .int (nI 0))]) (by rfl) ?_
                  refine G.we (ws' := [(o 0, moO o ik be so tp fr tq vl wr), (o 8, arI E 4 bo), (o 9, arI E 4 szz), (o 10, arJ E 160 (ptN (40 * b + g) 0 (shL nu (40 * a + f)) nu)), (o 11, arJ E 40 (cpL n0 (shL nu (40 * a + f)) mv))]) (by rw [ptN_0]) ?_
                  exact L157 (n0 + 1) 0 (by omega) (by omega)
                · refine G.aload_n hX 0 rfl dX4_copy_127 ?_
                  refine G.get hX inc_X4_copy_4 0 rfl rfl 18 (by decide) (by decide +kernel) rfl dX4_copy_128 ?_
                  refine G.iload hX 6 rfl dX4_copy_131 ?_
                  refine G.aload_n hX 0 rfl dX4_copy_133 ?_
                  refine G.get hX inc_X4_copy_4 0 rfl rfl 17 (by decide) (by decide +kernel) rfl dX4_copy_134 ?_
                  refine G.bipush hX (v := 40) (by decide) dX4_copy_137 ?_
                  refine G.iload_n hX 1 rfl dX4_copy_139 ?_
                  refine G.imul hX dX4_copy_140 ?_
                  refine G.ie (pk_mul 40 a) ?_
                  refine G.iload_n hX 2 rfl dX4_copy_141 ?_
                  refine G.iadd hX dX4_copy_142 ?_
                  refine G.ie (nI_add (40 * a) f) ?_
                  refine G.iload hX 6 rfl dX4_copy_143 ?_
                  refine G.iadd hX dX4_copy_145 ?_
                  refine G.ie (nI_add ((40 * a) + f) k) ?_
                  refine G.lald hX (j := ((40 * a) + f) + k) 3 rfl (by omega) (by omega) dX4_copy_146 ?_
                  refine G.last hX (j := k) (ws' := [(o 0, moO o ik be so tp fr tq vl wr), (o 8, arI E 4 bo), (o 9, arI E 4 szz), (o 10, arJ E 160 nu), (o 11, arJ E 40 (vp_updL (cpL k (shL nu (40 * a + f)) mv) k (nu (((40 * a) + f) + k))))]) 4 rfl (by omega) (by omega) rfl rfl dX4_copy_147 ?_
                  refine G.iinc hX (n := 1) (lv' := [(6, .int (nI (k + 1))), (0, .ref (o 0)), (1, .int (nI a)), (2, .int (nI f)), (3, .int (nI b)), (4, .int (nI g)), (5, .int (nI n0))]) 6 rfl (inc_nI k 1 rfl) (by decide) rfl dX4_copy_148 ?_
                  refine G.goto hX (tgt := 120) (by decide) dX4_copy_151 ?_
                  refine G.lvp (lv' := [(0, .ref (o 0)), (1, .int (nI a)), (2, .int (nI f)), (3, .int (nI b)), (4, .int (nI g)), (5, .int (nI n0)), (6, .int (nI (k + 1)))]) [1, 2, 3, 4, 5, 6, 0] rfl ?_
                  refine G.lve (lv' := [(0, .ref (o 0)), (1, .int (nI a)), (2, .int (nI f)), (3, .int (nI b)), (4, .int (nI g)), (5, .int (nI n0)), (6, .int (nI ((k + 1))))]) (by rfl) ?_
                  refine G.we (ws' := [(o 0, moO o ik be so tp fr tq vl wr), (o 8, arI E 4 bo), (o 9, arI E 4 szz), (o 10, arJ E 160 nu), (o 11, arJ E 40 (cpL (k + 1) (shL nu (40 * a + f)) mv))]) (by rw [← cpL_s]; first | done | rfl) ?_
                  exact ih120 (k + 1) (by omega) (by omega)
            refine G.lvp (lv' := [(0, .ref (o 0)), (1, .int (nI a)), (2, .int (nI f)), (3, .int (nI b)), (4, .int (nI g)), (5, .int (nI n0)), (6, .int 0)]) [1, 2, 3, 4, 5, 6, 0] rfl ?_
            refine G.lve (lv' := [(0, .ref (o 0)), (1, .int (nI a)), (2, .int (nI f)), (3, .int (nI b)), (4, .int (nI g)), (5, .int (nI n0)), (6, .int (nI 0))]) (by rfl) ?_
            refine G.we (ws' := [(o 0, moO o ik be so tp fr tq vl wr), (o 8, arI E 4 bo), (o 9, arI E 4 szz), (o 10, arJ E 160 nu), (o 11, arJ E 40 (cpL 0 (shL nu (40 * a + f)) mv))]) (by rw [cpL_0]) ?_
            exact L120 (n0 + 1) 0 (by omega) (by omega)
          · exact absurd c107 (by omega)
      · exact absurd h4 c59
    · first | exact absurd c36 h3 | exact absurd (h4.trans c36) h3
abbrev rmX4_lays : Room := { frames := 3, cells := 0, slots := 0, locals := 66 }
theorem cp_X4_lays : CP yX4_lays RX4 wsX4_lays 6 1 rmX4_lays := ⟨⟨_, _, _, rfl⟩, rfl, rfl, by decide +kernel⟩
theorem inc_X4_lays_4 : ∀ w ∈ u_ws RX4 TX4 19, w ∈ wsX4_lays := by decide +kernel
set_option maxHeartbeats 4000000 in
set_option maxRecDepth 100000 in
theorem c_X4_laysbad (l : Launch) (E : EV) (x : Int32) (o : Nat → Nat) (ik : Int32) (be : Int32) (so : Int32) (tp : Int32) (fr : Int32) (tq : Int32) (vl : Int32) (wr : Int32) (stt : Nat → Int32) (bo : Nat → Int32) (h1 : inI x 0 3 = false) : CI l yX4_lays wsX4_lays rmX4_lays E [.ref (o 0), .int x] [(o 0, moO o ik be so tp fr tq vl wr), (o 5, arI E 7 stt), (o 8, arI E 4 bo)] [(o 0, moO o ik be so tp fr tq vl wr), (o 5, arI E 7 (upd stt 0 (stt 0 + 1))), (o 8, arI E 4 bo)] ((-1000000001)) := by
  refine CI.of (own := RX4) (cc := cX4_lays) (nL := 6) (rt := (some .int)) (by decide) rfl rfl (Nat.le_of_ble_eq_true rfl) (fun X hX hQ => ?_)
  show G E X 6 0 [(0, .ref (o 0)), (1, .int x)] [] [(o 0, moO o ik be so tp fr tq vl wr), (o 5, arI E 7 stt), (o 8, arI E 4 bo)]
  refine G.aload_n hX 0 rfl dX4_lays_0 ?_
  refine G.iload_n hX 1 rfl dX4_lays_1 ?_
  refine G.vi hX (As := [.int x]) (st := []) (wr := [(o 5, arI E 7 stt)]) (wf := [(o 0, moO o ik be so tp fr tq vl wr), (o 5, arI E 7 stt), (o 8, arI E 4 bo)]) (q0 := 0) (ci := 4) rfl rfl (c_X4_wrongSheetbad _ E (x := x) (o := o) (ik := ik) (be := be) (so := so) (tp := tp) (fr := fr) (tq := tq) (vl := vl) (wr := wr) (bo := bo) (h1 := by omega)) gX4_lays_X4_wrongSheet cp_X4_wrongSheet (by decide) [0, 2] [1] [1, 0, 2] ⟨rfl, rfl, by decide, rfl⟩ rfl rfl (Nat.le_of_ble_eq_true rfl) dX4_lays_2 ?_
  refine G.istore_n hX (lv' := [(2, .int ((-1000000001))), (0, .ref (o 0)), (1, .int x)]) rfl (by decide) rfl dX4_lays_5 ?_
  refine G.iload_n hX 0 rfl dX4_lays_6 ?_
  refine G.if_eq hX (tgt := 16) (by decide) dX4_lays_7 (fun c7 => absurd c7 (by decide)) (fun _ => ?_)
  refine G.aload_n hX 1 rfl dX4_lays_10 ?_
  refine G.iload_n hX 0 rfl dX4_lays_11 ?_
  refine G.vi hX (As := [.int ((-1000000001))]) (st := []) (wr := [(o 8, arI E 4 bo)]) (wf := [(o 0, moO o ik be so tp fr tq vl wr), (o 5, arI E 7 (upd stt 0 (stt 0 + 1))), (o 8, arI E 4 bo)]) (q0 := 0) (ci := 4) rfl rfl (c_X4_finds0 _ E (o := o) (ik := ik) (be := be) (so := so) (tp := tp) (fr := fr) (tq := tq) (vl := vl) (wr := wr) (stt := stt) ) gX4_lays_X4_finds cp_X4_finds (by decide) [0, 1] [2] [1, 2, 0] ⟨rfl, rfl, by decide, rfl⟩ rfl rfl (Nat.le_of_ble_eq_true rfl) dX4_lays_12 ?_
  exact G.iret hX hQ dX4_lays_15 (by rfl) (by rfl)
set_option maxHeartbeats 4000000 in
set_option maxRecDepth 100000 in
theorem c_X4_laysmis (l : Launch) (E : EV) (sh : Nat) (o : Nat → Nat) (ik : Int32) (be : Int32) (so : Int32) (tp : Int32) (fr : Int32) (tq : Int32) (vl : Int32) (wr : Int32) (stt : Nat → Int32) (bo : Nat → Int32) (h1 : sh < 4) (h2 : bo sh = 0) : CI l yX4_lays wsX4_lays rmX4_lays E [.ref (o 0), .int (nI sh)] [(o 0, moO o ik be so tp fr tq vl wr), (o 5, arI E 7 stt), (o 8, arI E 4 bo)] [(o 0, moO o ik be so tp fr tq vl wr), (o 5, arI E 7 (upd stt 5 (stt 5 + 1))), (o 8, arI E 4 bo)] ((-1000000006)) := by
  refine CI.of (own := RX4) (cc := cX4_lays) (nL := 6) (rt := (some .int)) (by decide) rfl rfl (Nat.le_of_ble_eq_true rfl) (fun X hX hQ => ?_)
  show G E X 6 0 [(0, .ref (o 0)), (1, .int (nI sh))] [] [(o 0, moO o ik be so tp fr tq vl wr), (o 5, arI E 7 stt), (o 8, arI E 4 bo)]
  refine G.aload_n hX 0 rfl dX4_lays_0 ?_
  refine G.iload_n hX 1 rfl dX4_lays_1 ?_
  refine G.vi hX (As := [.int (nI sh)]) (st := []) (wr := [(o 5, arI E 7 stt)]) (wf := [(o 0, moO o ik be so tp fr tq vl wr), (o 5, arI E 7 stt), (o 8, arI E 4 bo)]) (q0 := 0) (ci := 4) rfl rfl (c_X4_wrongSheetmis _ E (sh := sh) (o := o) (ik := ik) (be := be) (so := so) (tp := tp) (fr := fr) (tq := tq) (vl := vl) (wr := wr) (bo := bo) (h1 := by omega) (h2 := h2)) gX4_lays_X4_wrongSheet cp_X4_wrongSheet (by decide) [0, 2] [1] [1, 0, 2] ⟨rfl, rfl, by decide, rfl⟩ rfl rfl (Nat.le_of_ble_eq_true rfl) dX4_lays_2 ?_
  refine G.istore_n hX (lv' := [(2, .int ((-1000000006))), (0, .ref (o 0)), (1, .int (nI sh))]) rfl (by decide) rfl dX4_lays_5 ?_
  refine G.iload_n hX 0 rfl dX4_lays_6 ?_
  refine G.if_eq hX (tgt := 16) (by decide) dX4_lays_7 (fun c7 => absurd c7 (by decide)) (fun _ => ?_)
  refine G.aload_n hX 1 rfl dX4_lays_10 ?_
  refine G.iload_n hX 0 rfl dX4_lays_11 ?_
  refine G.vi hX (As := [.int ((-1000000006))]) (st := []) (wr := [(o 8, arI E 4 bo)]) (wf := [(o 0, moO o ik be so tp fr tq vl wr), (o 5, arI E 7 (upd stt 5 (stt 5 + 1))), (o 8, arI E 4 bo)]) (q0 := 0) (ci := 4) rfl rfl (c_X4_finds5 _ E (o := o) (ik := ik) (be := be) (so := so) (tp := tp) (fr := fr) (tq := tq) (vl := vl) (wr := wr) (stt := stt) ) gX4_lays_X4_finds cp_X4_finds (by decide) [0, 1] [2] [1, 2, 0] ⟨rfl, rfl, by decide, rfl⟩ rfl rfl (Nat.le_of_ble_eq_true rfl) dX4_lays_12 ?_
  exact G.iret hX hQ dX4_lays_15 (by rfl) (by rfl)
set_option maxHeartbeats 4000000 in
set_option maxRecDepth 100000 in
theorem c_X4_laysok (l : Launch) (E : EV) (sh : Nat) (z : Nat) (o : Nat → Nat) (ik : Int32) (be : Int32) (so : Int32) (tp : Int32) (fr : Int32) (tq : Int32) (vl : Int32) (wr : Int32) (s : Nat → Int32) (bo : Nat → Int32) (szz : Nat → Int32) (nu : Nat → Int64) (h1 : sh < 4) (h2 : ¬ bo sh = 0) (h3 : szz sh = nI z) (h4 : z ≤ 40) : CI l yX4_lays wsX4_lays rmX4_lays E [.ref (o 0), .int (nI sh)] [(o 0, moO o ik be so tp fr tq vl wr), (o 1, arI E 122 s), (o 8, arI E 4 bo), (o 9, arI E 4 szz), (o 10, arJ E 160 nu)] [(o 0, moO o ik be so tp fr tq vl wr), (o 1, arI E 122 (it (ms_lyS nu (40 * sh)) (min z 12) s)), (o 8, arI E 4 bo), (o 9, arI E 4 szz), (o 10, arJ E 160 nu)] (nI (it (ms_lyN nu (40 * sh)) (min z 12) 0)) := by
  refine CI.of (own := RX4) (cc := cX4_lays) (nL := 6) (rt := (some .int)) (by decide) rfl rfl (Nat.le_of_ble_eq_true rfl) (fun X hX hQ => ?_)
  show G E X 6 0 [(0, .ref (o 0)), (1, .int (nI sh))] [] [(o 0, moO o ik be so tp fr tq vl wr), (o 1, arI E 122 s), (o 8, arI E 4 bo), (o 9, arI E 4 szz), (o 10, arJ E 160 nu)]
  refine G.aload_n hX 0 rfl dX4_lays_0 ?_
  refine G.iload_n hX 1 rfl dX4_lays_1 ?_
  refine G.vi hX (As := [.int (nI sh)]) (st := []) (wr := [(o 1, arI E 122 s), (o 9, arI E 4 szz), (o 10, arJ E 160 nu)]) (wf := [(o 0, moO o ik be so tp fr tq vl wr), (o 1, arI E 122 s), (o 8, arI E 4 bo), (o 9, arI E 4 szz), (o 10, arJ E 160 nu)]) (q0 := 0) (ci := 4) rfl rfl (c_X4_wrongSheetok _ E (sh := sh) (o := o) (ik := ik) (be := be) (so := so) (tp := tp) (fr := fr) (tq := tq) (vl := vl) (wr := wr) (bo := bo) (h1 := by omega) (h2 := h2)) gX4_lays_X4_wrongSheet cp_X4_wrongSheet (by decide) [0, 2] [1, 3, 4] [3, 0, 4, 1, 2] ⟨rfl, rfl, by decide, rfl⟩ rfl rfl (Nat.le_of_ble_eq_true rfl) dX4_lays_2 ?_
  refine G.istore_n hX (lv' := [(2, .int 0), (0, .ref (o 0)), (1, .int (nI sh))]) rfl (by decide) rfl dX4_lays_5 ?_
  refine G.iload_n hX 0 rfl dX4_lays_6 ?_
  refine G.if_eq hX (tgt := 16) (by decide) dX4_lays_7 (fun _ => ?_) (fun c7 => absurd c7 (by decide))
  refine G.iconst hX (v := 0) (by decide) dX4_lays_16 ?_
  refine G.istore_n hX (lv' := [(3, .int 0), (2, .int 0), (0, .ref (o 0)), (1, .int (nI sh))]) rfl (by decide) rfl dX4_lays_17 ?_
  refine G.iconst hX (v := 0) (by decide) dX4_lays_18 ?_
  refine G.istore hX (lv' := [(4, .int 0), (3, .int 0), (2, .int 0), (0, .ref (o 0)), (1, .int (nI sh))]) (by decide) rfl dX4_lays_19 ?_
  have L21 : ∀ (n : Nat) (k : Nat), k ≤ 12 → k ≤ z → 13 ≤ k + n → G E X 6 21 [(0, .ref (o 0)), (1, .int (nI sh)), (3, .int (nI (it (ms_lyN nu (40 * sh)) k 0))), (4, .int (nI k))] [] [(o 0, moO o ik be so tp fr tq vl wr), (o 1, arI E 122 (it (ms_lyS nu (40 * sh)) k s)), (o 8, arI E 4 bo), (o 9, arI E 4 szz), (o 10, arJ E 160 nu)] := by
    intro n
    induction n with
    | zero => intro k hl21_0 hl21_1 hl21_2; exact absurd hl21_2 (by omega)
    | succ n ih21 =>
      intro k hl21_0 hl21_1 hl21_2
      refine G.iload hX 3 rfl dX4_lays_21 ?_
      refine G.aload_n hX 0 rfl dX4_lays_23 ?_
      refine G.get hX inc_X4_lays_4 0 rfl rfl 16 (by decide) (by decide +kernel) rfl dX4_lays_24 ?_
      refine G.iload_n hX 1 rfl dX4_lays_27 ?_
      refine G.iald hX (j := sh) 3 rfl (by omega) (by omega) dX4_lays_28 ?_
      refine G.ie (y := nI z) (by exact h3) ?_
      refine G.n_ge hX (a := k) (b := z) (tgt := 118) (by omega) (by omega) (by decide) dX4_lays_29 (fun c29 => ?_) (fun c29 => ?_)
      · refine G.iload_n hX 2 rfl dX4_lays_118 ?_
        exact G.iret hX hQ dX4_lays_119 (by have ek : min z 12 = k := (by omega); rw [ek]) (by have ek : min z 12 = k := (by omega); rw [ek])
      · refine G.iload hX 3 rfl dX4_lays_32 ?_
        refine G.bipush hX (v := 12) (by decide) dX4_lays_34 ?_
        refine G.n_ge hX (a := k) (b := 12) (tgt := 118) (by omega) (by omega) (by decide) dX4_lays_36 (fun c36 => ?_) (fun c36 => ?_)
        · refine G.iload_n hX 2 rfl dX4_lays_118 ?_
          exact G.iret hX hQ dX4_lays_119 (by have ek : min z 12 = k := (by omega); rw [ek]) (by have ek : min z 12 = k := (by omega); rw [ek])
        · refine G.aload_n hX 0 rfl dX4_lays_39 ?_
          refine G.get hX inc_X4_lays_4 0 rfl rfl 17 (by decide) (by decide +kernel) rfl dX4_lays_40 ?_
          refine G.bipush hX (v := 40) (by decide) dX4_lays_43 ?_
          refine G.iload_n hX 1 rfl dX4_lays_45 ?_
          refine G.imul hX dX4_lays_46 ?_
          refine G.ie (pk_mul 40 sh) ?_
          refine G.iload hX 3 rfl dX4_lays_47 ?_
          refine G.iadd hX dX4_lays_49 ?_
          refine G.ie (nI_add (40 * sh) k) ?_
          refine G.lald hX (j := (40 * sh) + k) 4 rfl (by omega) (by omega) dX4_lays_50 ?_
          refine G.lconst hX (v := 0) (by decide) dX4_lays_51 ?_
          refine G.ldc2 hX (v := 999) (by decide +kernel) dX4_lays_52 ?_
          refine G.s0i hX (As := [.long (nu ((40 * sh) + k)), .long 0, .long 999]) (st := []) (c_X4_in _ E (v := nu ((40 * sh) + k)) (lo := 0) (hi := 999) ) gX4_lays_X4_in cp_X4_in (by decide) rfl rfl (Nat.le_of_ble_eq_true rfl) dX4_lays_55 ?_
          refine G.istore hX (lv' := [(5, .int (bI (inR (nu ((40 * sh) + k)) 0 999))), (0, .ref (o 0)), (1, .int (nI sh)), (3, .int (nI (it (ms_lyN nu (40 * sh)) k 0))), (4, .int (nI k))]) (by decide) rfl dX4_lays_58 ?_
          refine G.aload_n hX 1 rfl dX4_lays_60 ?_
          refine G.get hX inc_X4_lays_4 0 rfl rfl 0 (by decide) (by decide +kernel) rfl dX4_lays_61 ?_
          refine G.iload hX 4 rfl dX4_lays_64 ?_
          refine G.iconst hX (v := 1) (by decide) dX4_lays_66 ?_
          refine G.s0i hX (As := [.int (nI k), .int 1]) (st := [.ref (o 1)]) (c_X4_spotOf _ E (t := k) (w := 1) ) gX4_lays_X4_spotOf cp_X4_spotOf (by decide) rfl rfl (Nat.le_of_ble_eq_true rfl) dX4_lays_67 ?_
          have J98 : G E X 6 98 [(0, .ref (o 0)), (1, .int (nI sh)), (3, .int (nI (it (ms_lyN nu (40 * sh)) k 0))), (4, .int (nI k)), (5, .int (bI (inR (nu (40 * sh + k)) 0 999)))] [.int (ms_lyV nu (40 * sh) k (it (ms_lyS nu (40 * sh)) k s)), .int (nI (2 + 10 * k + 1)), .ref (o 1)] [(o 0, moO o ik be so tp fr tq vl wr), (o 1, arI E 122 (it (ms_lyS nu (40 * sh)) k s)), (o 8, arI E 4 bo), (o 9, arI E 4 szz), (o 10, arJ E 160 nu)] := by
            refine G.iast hX (j := 2 + 10 * k + 1) (ws' := [(o 0, moO o ik be so tp fr tq vl wr), (o 1, arI E 122 (upd (it (ms_lyS nu (40 * sh)) k s) (2 + 10 * k + 1) (ms_lyV nu (40 * sh) k (it (ms_lyS nu (40 * sh)) k s)))), (o 8, arI E 4 bo), (o 9, arI E 4 szz), (o 10, arJ E 160 nu)]) 1 rfl (by omega) (by omega) rfl rfl dX4_lays_98 ?_
            have J110 : G E X 6 110 [(0, .ref (o 0)), (1, .int (nI sh)), (4, .int (nI k))] [.int (nI (if inR (nu (40 * sh + k)) 0 999 then 1 else 0)), .int (nI (it (ms_lyN nu (40 * sh)) k 0))] [(o 0, moO o ik be so tp fr tq vl wr), (o 1, arI E 122 (upd (it (ms_lyS nu (40 * sh)) k s) (2 + 10 * k + 1) (ms_lyV nu (40 * sh) k (it (ms_lyS nu (40 * sh)) k s)))), (o 8, arI E 4 bo), (o 9, arI E 4 szz), (o 10, arJ E 160 nu)] := by
              refine G.iadd hX dX4_lays_110 ?_
              refine G.ie (y := nI (it (ms_lyN nu (40 * sh)) (k + 1) 0)) (by exact nI_add _ _) ?_
              refine G.istore_n hX (lv' := [(3, .int (nI (it (ms_lyN nu (40 * sh)) (k + 1) 0))), (0, .ref (o 0)), (1, .int (nI sh)), (4, .int (nI k))]) rfl (by decide) rfl dX4_lays_111 ?_
              refine G.iinc hX (n := 1) (lv' := [(4, .int (nI (k + 1))), (3, .int (nI (it (ms_lyN nu (40 * sh)) (k + 1) 0))), (0, .ref (o 0)), (1, .int (nI sh))]) 3 rfl (inc_nI k 1 rfl) (by decide) rfl dX4_lays_112 ?_
              refine G.goto hX (tgt := 21) (by decide) dX4_lays_115 ?_
              refine G.lvp (lv' := [(0, .ref (o 0)), (1, .int (nI sh)), (3, .int (nI (it (ms_lyN nu (40 * sh)) (k + 1) 0))), (4, .int (nI (k + 1)))]) [2, 3, 1, 0] rfl ?_
              refine G.lve (lv' := [(0, .ref (o 0)), (1, .int (nI sh)), (3, .int (nI (it (ms_lyN nu (40 * sh)) (k + 1) 0))), (4, .int (nI ((k + 1))))]) (by rfl) ?_
              refine G.we (ws' := [(o 0, moO o ik be so tp fr tq vl wr), (o 1, arI E 122 (it (ms_lyS nu (40 * sh)) (k + 1) s)), (o 8, arI E 4 bo), (o 9, arI E 4 szz), (o 10, arJ E 160 nu)]) (by rfl) ?_
              exact ih21 (k + 1) (by omega) (by omega) (by omega)
            refine G.iload_n hX 2 rfl dX4_lays_99 ?_
            refine G.iload hX 4 rfl dX4_lays_100 ?_
            refine G.b_eq hX (tgt := 109) (by decide) dX4_lays_102 (fun c102 => ?_) (fun c102 => ?_)
            · refine G.iconst hX (v := 0) (by decide) dX4_lays_109 ?_
              refine G.lvp (lv' := [(0, .ref (o 0)), (1, .int (nI sh)), (4, .int (nI k))]) [0, 1, 3] rfl ?_
              refine G.ve (y := .int (nI (if inR (nu (40 * sh + k)) 0 999 then 1 else 0))) (by first | rfl | (simp only [c29, c36, c102, ↓reduceIte, Bool.not_true, Bool.not_false, Bool.and_true, Bool.true_and, Bool.and_false, Bool.false_and, Bool.or_true, Bool.true_or, Bool.or_false, Bool.false_or, decide_true, decide_false, not_true_eq_false, not_false_eq_true, Bool.false_eq_true, Bool.true_eq_false]; done) | (simp only [c29, c36, c102, ↓reduceIte, Bool.not_true, Bool.not_false, Bool.and_true, Bool.true_and, Bool.and_false, Bool.false_and, Bool.or_true, Bool.true_or, Bool.or_false, Bool.false_or, decide_true, decide_false, not_true_eq_false, not_false_eq_true, Bool.false_eq_true, Bool.true_eq_false]; rfl) | (simp [c29, c36, c102]; done)) ?_
              exact J110
            · refine G.iconst hX (v := 1) (by decide) dX4_lays_105 ?_
              refine G.goto hX (tgt := 110) (by decide) dX4_lays_106 ?_
              refine G.lvp (lv' := [(0, .ref (o 0)), (1, .int (nI sh)), (4, .int (nI k))]) [0, 1, 3] rfl ?_
              refine G.ve (y := .int (nI (if inR (nu (40 * sh + k)) 0 999 then 1 else 0))) (by first | rfl | (simp only [c29, c36, c102, ↓reduceIte, Bool.not_true, Bool.not_false, Bool.and_true, Bool.true_and, Bool.and_false, Bool.false_and, Bool.or_true, Bool.true_or, Bool.or_false, Bool.false_or, decide_true, decide_false, not_true_eq_false, not_false_eq_true, Bool.false_eq_true, Bool.true_eq_false]; done) | (simp only [c29, c36, c102, ↓reduceIte, Bool.not_true, Bool.not_false, Bool.and_true, Bool.true_and, Bool.and_false, Bool.false_and, Bool.or_true, Bool.true_or, Bool.or_false, Bool.false_or, decide_true, decide_false, not_true_eq_false, not_false_eq_true, Bool.false_eq_true, Bool.true_eq_false]; rfl) | (simp [c29, c36, c102]; done)) ?_
              exact J110
          refine G.iload hX 0 rfl dX4_lays_70 ?_
          refine G.b_eq hX (tgt := 91) (by decide) dX4_lays_72 (fun c72 => ?_) (fun c72 => ?_)
          · refine G.aload_n hX 1 rfl dX4_lays_91 ?_
            refine G.iload hX 4 rfl dX4_lays_92 ?_
            refine G.iconst hX (v := 1) (by decide) dX4_lays_94 ?_
            refine G.vi hX (As := [.int (nI k), .int 1]) (st := [.int (nI (2 + 10 * k + 1)), .ref (o 1)]) (wr := [(o 8, arI E 4 bo), (o 9, arI E 4 szz), (o 10, arJ E 160 nu)]) (wf := [(o 0, moO o ik be so tp fr tq vl wr), (o 1, arI E 122 (it (ms_lyS nu (40 * sh)) k s)), (o 8, arI E 4 bo), (o 9, arI E 4 szz), (o 10, arJ E 160 nu)]) (q0 := 0) (ci := 4) rfl rfl (c_X4_its _ E (t := k) (w := 1) (o := o) (ik := ik) (be := be) (so := so) (tp := tp) (fr := fr) (tq := tq) (vl := vl) (wr := wr) (s := it (ms_lyS nu (40 * sh)) k s) (h1 := by omega)) gX4_lays_X4_its cp_X4_its (by decide) [0, 1] [2, 3, 4] [3, 4, 0, 1, 2] ⟨rfl, rfl, by decide, rfl⟩ rfl rfl (Nat.le_of_ble_eq_true rfl) dX4_lays_95 ?_
            refine G.lvp (lv' := [(0, .ref (o 0)), (1, .int (nI sh)), (3, .int (nI (it (ms_lyN nu (40 * sh)) k 0))), (4, .int (nI k)), (5, .int (bI (inR (nu ((40 * sh) + k)) 0 999)))]) [1, 2, 3, 4, 0] rfl ?_
            refine G.lve (lv' := [(0, .ref (o 0)), (1, .int (nI sh)), (3, .int (nI (it (ms_lyN nu (40 * sh)) k 0))), (4, .int (nI k)), (5, .int (bI (inR (nu (40 * sh + k)) 0 999)))]) (by first | rfl | (simp only [ms_lyV, c29, c36, c72, ↓reduceIte, Bool.not_true, Bool.not_false, Bool.and_true, Bool.true_and, Bool.and_false, Bool.false_and, Bool.or_true, Bool.true_or, Bool.or_false, Bool.false_or, decide_true, decide_false, not_true_eq_false, not_false_eq_true, Bool.false_eq_true, Bool.true_eq_false]; done) | (simp only [ms_lyV, c29, c36, c72, ↓reduceIte, Bool.not_true, Bool.not_false, Bool.and_true, Bool.true_and, Bool.and_false, Bool.false_and, Bool.or_true, Bool.true_or, Bool.or_false, Bool.false_or, decide_true, decide_false, not_true_eq_false, not_false_eq_true, Bool.false_eq_true, Bool.true_eq_false]; rfl) | (simp [ms_lyV, c29, c36, c72]; done)) ?_
            refine G.ve (y := .int (ms_lyV nu (40 * sh) k (it (ms_lyS nu (40 * sh)) k s))) (by first | rfl | (simp only [ms_lyV, c29, c36, c72, ↓reduceIte, Bool.not_true, Bool.not_false, Bool.and_true, Bool.true_and, Bool.and_false, Bool.false_and, Bool.or_true, Bool.true_or, Bool.or_false, Bool.false_or, decide_true, decide_false, not_true_eq_false, not_false_eq_true, Bool.false_eq_true, Bool.true_eq_false]; done) | (simp only [ms_lyV, c29, c36, c72, ↓reduceIte, Bool.not_true, Bool.not_false, Bool.and_true, Bool.true_and, Bool.and_false, Bool.false_and, Bool.or_true, Bool.true_or, Bool.or_false, Bool.false_or, decide_true, decide_false, not_true_eq_false, not_false_eq_true, Bool.false_eq_true, Bool.true_eq_false]; rfl) | (simp [ms_lyV, c29, c36, c72]; done)) ?_
            exact J98
          · refine G.aload_n hX 1 rfl dX4_lays_75 ?_
            refine G.get hX inc_X4_lays_4 0 rfl rfl 17 (by decide) (by decide +kernel) rfl dX4_lays_76 ?_
            refine G.bipush hX (v := 40) (by decide) dX4_lays_79 ?_
            refine G.iload_n hX 2 rfl dX4_lays_81 ?_
            refine G.imul hX dX4_lays_82 ?_
            refine G.ie (pk_mul 40 sh) ?_
            refine G.iload hX 4 rfl dX4_lays_83 ?_
            refine G.iadd hX dX4_lays_85 ?_
            refine G.ie (nI_add (40 * sh) k) ?_
            refine G.lald hX (j := (40 * sh) + k) 4 rfl (by omega) (by omega) dX4_lays_86 ?_
            refine G.l2i hX dX4_lays_87 ?_
            refine G.goto hX (tgt := 98) (by decide) dX4_lays_88 ?_
            refine G.lvp (lv' := [(0, .ref (o 0)), (1, .int (nI sh)), (3, .int (nI (it (ms_lyN nu (40 * sh)) k 0))), (4, .int (nI k)), (5, .int (bI (inR (nu ((40 * sh) + k)) 0 999)))]) [1, 2, 3, 4, 0] rfl ?_
            refine G.lve (lv' := [(0, .ref (o 0)), (1, .int (nI sh)), (3, .int (nI (it (ms_lyN nu (40 * sh)) k 0))), (4, .int (nI k)), (5, .int (bI (inR (nu (40 * sh + k)) 0 999)))]) (by first | rfl | (simp only [ms_lyV, c29, c36, c72, ↓reduceIte, Bool.not_true, Bool.not_false, Bool.and_true, Bool.true_and, Bool.and_false, Bool.false_and, Bool.or_true, Bool.true_or, Bool.or_false, Bool.false_or, decide_true, decide_false, not_true_eq_false, not_false_eq_true, Bool.false_eq_true, Bool.true_eq_false]; done) | (simp only [ms_lyV, c29, c36, c72, ↓reduceIte, Bool.not_true, Bool.not_false, Bool.and_true, Bool.true_and, Bool.and_false, Bool.false_and, Bool.or_true, Bool.true_or, Bool.or_false, Bool.false_or, decide_true, decide_false, not_true_eq_false, not_false_eq_true, Bool.false_eq_true, Bool.true_eq_false]; rfl) | (simp [ms_lyV, c29, c36, c72]; done)) ?_
            refine G.ve (y := .int (ms_lyV nu (40 * sh) k (it (ms_lyS nu (40 * sh)) k s))) (by first | rfl | (simp only [ms_lyV, c29, c36, c72, ↓reduceIte, Bool.not_true, Bool.not_false, Bool.and_true, Bool.true_and, Bool.and_false, Bool.false_and, Bool.or_true, Bool.true_or, Bool.or_false, Bool.false_or, decide_true, decide_false, not_true_eq_false, not_false_eq_true, Bool.false_eq_true, Bool.true_eq_false]; done) | (simp only [ms_lyV, c29, c36, c72, ↓reduceIte, Bool.not_true, Bool.not_false, Bool.and_true, Bool.true_and, Bool.and_false, Bool.false_and, Bool.or_true, Bool.true_or, Bool.or_false, Bool.false_or, decide_true, decide_false, not_true_eq_false, not_false_eq_true, Bool.false_eq_true, Bool.true_eq_false]; rfl) | (simp [ms_lyV, c29, c36, c72]; done)) ?_
            exact J98
  refine G.lvp (lv' := [(0, .ref (o 0)), (1, .int (nI sh)), (3, .int 0), (4, .int 0)]) [3, 4, 1, 0] rfl ?_
  refine G.lve (lv' := [(0, .ref (o 0)), (1, .int (nI sh)), (3, .int (nI (it (ms_lyN nu (40 * sh)) 0 0))), (4, .int (nI 0))]) (by rfl) ?_
  refine G.we (ws' := [(o 0, moO o ik be so tp fr tq vl wr), (o 1, arI E 122 (it (ms_lyS nu (40 * sh)) 0 s)), (o 8, arI E 4 bo), (o 9, arI E 4 szz), (o 10, arJ E 160 nu)]) (by rfl) ?_
  exact L21 13 0 (by omega) (by omega) (by omega)
abbrev rmX4_book : Room := { frames := 7, cells := 0, slots := 0, locals := 157 }
theorem cp_X4_book : CP yX4_book RX4 wsX4_book 5 2 rmX4_book := ⟨⟨_, _, _, rfl⟩, rfl, rfl, by decide +kernel⟩
theorem inc_X4_book_4 : ∀ w ∈ u_ws RX4 TX4 19, w ∈ wsX4_book := by decide +kernel
set_option maxHeartbeats 4000000 in
set_option maxRecDepth 100000 in
theorem c_X4_bookbad (l : Launch) (E : EV) (x : Int32) (y : Int32) (o : Nat → Nat) (ik : Int32) (be : Int32) (so : Int32) (tp : Int32) (fr : Int32) (tq : Int32) (vl : Int32) (wr : Int32) (stt : Nat → Int32) (bo : Nat → Int32) (h1 : inI x 0 3 = false) : CI l yX4_book wsX4_book rmX4_book E [.ref (o 0), .int x, .int y] [(o 0, moO o ik be so tp fr tq vl wr), (o 5, arI E 7 stt), (o 8, arI E 4 bo)] [(o 0, moO o ik be so tp fr tq vl wr), (o 5, arI E 7 (upd stt 0 (stt 0 + 1))), (o 8, arI E 4 bo)] ((-1000000001)) := by
  refine CI.of (own := RX4) (cc := cX4_book) (nL := 5) (rt := (some .int)) (by decide) rfl rfl (Nat.le_of_ble_eq_true rfl) (fun X hX hQ => ?_)
  show G E X 5 0 [(0, .ref (o 0)), (1, .int x), (2, .int y)] [] [(o 0, moO o ik be so tp fr tq vl wr), (o 5, arI E 7 stt), (o 8, arI E 4 bo)]
  refine G.aload_n hX 0 rfl dX4_book_0 ?_
  refine G.iload_n hX 1 rfl dX4_book_1 ?_
  refine G.vi hX (As := [.int x]) (st := []) (wr := [(o 5, arI E 7 stt)]) (wf := [(o 0, moO o ik be so tp fr tq vl wr), (o 5, arI E 7 stt), (o 8, arI E 4 bo)]) (q0 := 0) (ci := 4) rfl rfl (c_X4_wrongSheetbad _ E (x := x) (o := o) (ik := ik) (be := be) (so := so) (tp := tp) (fr := fr) (tq := tq) (vl := vl) (wr := wr) (bo := bo) (h1 := by omega)) gX4_book_X4_wrongSheet cp_X4_wrongSheet (by decide) [0, 2] [1] [1, 0, 2] ⟨rfl, rfl, by decide, rfl⟩ rfl rfl (Nat.le_of_ble_eq_true rfl) dX4_book_2 ?_
  refine G.istore_n hX (lv' := [(3, .int ((-1000000001))), (0, .ref (o 0)), (1, .int x), (2, .int y)]) rfl (by decide) rfl dX4_book_5 ?_
  refine G.iload_n hX 0 rfl dX4_book_6 ?_
  refine G.if_eq hX (tgt := 16) (by decide) dX4_book_7 (fun c7 => absurd c7 (by decide)) (fun _ => ?_)
  refine G.aload_n hX 1 rfl dX4_book_10 ?_
  refine G.iload_n hX 0 rfl dX4_book_11 ?_
  refine G.vi hX (As := [.int ((-1000000001))]) (st := []) (wr := [(o 8, arI E 4 bo)]) (wf := [(o 0, moO o ik be so tp fr tq vl wr), (o 5, arI E 7 (upd stt 0 (stt 0 + 1))), (o 8, arI E 4 bo)]) (q0 := 0) (ci := 4) rfl rfl (c_X4_finds0 _ E (o := o) (ik := ik) (be := be) (so := so) (tp := tp) (fr := fr) (tq := tq) (vl := vl) (wr := wr) (stt := stt) ) gX4_book_X4_finds cp_X4_finds (by decide) [0, 1] [2] [1, 2, 0] ⟨rfl, rfl, by decide, rfl⟩ rfl rfl (Nat.le_of_ble_eq_true rfl) dX4_book_12 ?_
  exact G.iret hX hQ dX4_book_15 (by rfl) (by rfl)
set_option maxHeartbeats 4000000 in
set_option maxRecDepth 100000 in
theorem c_X4_bookmis (l : Launch) (E : EV) (sh : Nat) (y : Int32) (o : Nat → Nat) (ik : Int32) (be : Int32) (so : Int32) (tp : Int32) (fr : Int32) (tq : Int32) (vl : Int32) (wr : Int32) (stt : Nat → Int32) (bo : Nat → Int32) (h1 : sh < 4) (h2 : bo sh = 0) : CI l yX4_book wsX4_book rmX4_book E [.ref (o 0), .int (nI sh), .int y] [(o 0, moO o ik be so tp fr tq vl wr), (o 5, arI E 7 stt), (o 8, arI E 4 bo)] [(o 0, moO o ik be so tp fr tq vl wr), (o 5, arI E 7 (upd stt 5 (stt 5 + 1))), (o 8, arI E 4 bo)] ((-1000000006)) := by
  refine CI.of (own := RX4) (cc := cX4_book) (nL := 5) (rt := (some .int)) (by decide) rfl rfl (Nat.le_of_ble_eq_true rfl) (fun X hX hQ => ?_)
  show G E X 5 0 [(0, .ref (o 0)), (1, .int (nI sh)), (2, .int y)] [] [(o 0, moO o ik be so tp fr tq vl wr), (o 5, arI E 7 stt), (o 8, arI E 4 bo)]
  refine G.aload_n hX 0 rfl dX4_book_0 ?_
  refine G.iload_n hX 1 rfl dX4_book_1 ?_
  refine G.vi hX (As := [.int (nI sh)]) (st := []) (wr := [(o 5, arI E 7 stt)]) (wf := [(o 0, moO o ik be so tp fr tq vl wr), (o 5, arI E 7 stt), (o 8, arI E 4 bo)]) (q0 := 0) (ci := 4) rfl rfl (c_X4_wrongSheetmis _ E (sh := sh) (o := o) (ik := ik) (be := be) (so := so) (tp := tp) (fr := fr) (tq := tq) (vl := vl) (wr := wr) (bo := bo) (h1 := by omega) (h2 := h2)) gX4_book_X4_wrongSheet cp_X4_wrongSheet (by decide) [0, 2] [1] [1, 0, 2] ⟨rfl, rfl, by decide, rfl⟩ rfl rfl (Nat.le_of_ble_eq_true rfl) dX4_book_2 ?_
  refine G.istore_n hX (lv' := [(3, .int ((-1000000006))), (0, .ref (o 0)), (1, .int (nI sh)), (2, .int y)]) rfl (by decide) rfl dX4_book_5 ?_
  refine G.iload_n hX 0 rfl dX4_book_6 ?_
  refine G.if_eq hX (tgt := 16) (by decide) dX4_book_7 (fun c7 => absurd c7 (by decide)) (fun _ => ?_)
  refine G.aload_n hX 1 rfl dX4_book_10 ?_
  refine G.iload_n hX 0 rfl dX4_book_11 ?_
  refine G.vi hX (As := [.int ((-1000000006))]) (st := []) (wr := [(o 8, arI E 4 bo)]) (wf := [(o 0, moO o ik be so tp fr tq vl wr), (o 5, arI E 7 (upd stt 5 (stt 5 + 1))), (o 8, arI E 4 bo)]) (q0 := 0) (ci := 4) rfl rfl (c_X4_finds5 _ E (o := o) (ik := ik) (be := be) (so := so) (tp := tp) (fr := fr) (tq := tq) (vl := vl) (wr := wr) (stt := stt) ) gX4_book_X4_finds cp_X4_finds (by decide) [0, 1] [2] [1, 2, 0] ⟨rfl, rfl, by decide, rfl⟩ rfl rfl (Nat.le_of_ble_eq_true rfl) dX4_book_12 ?_
  exact G.iret hX hQ dX4_book_15 (by rfl) (by rfl)
set_option maxHeartbeats 4000000 in
set_option maxRecDepth 100000 in
theorem c_X4_bookbey (l : Launch) (E : EV) (sh : Nat) (y : Int32) (o : Nat → Nat) (ik : Int32) (be : Int32) (so : Int32) (tp : Int32) (fr : Int32) (tq : Int32) (vl : Int32) (wr : Int32) (stt : Nat → Int32) (bo : Nat → Int32) (h1 : sh < 4) (h2 : ¬ bo sh = 0) (h3 : inI y 0 11 = false) : CI l yX4_book wsX4_book rmX4_book E [.ref (o 0), .int (nI sh), .int y] [(o 0, moO o ik be so tp fr tq vl wr), (o 5, arI E 7 stt), (o 8, arI E 4 bo)] [(o 0, moO o ik be so tp fr tq vl wr), (o 5, arI E 7 (upd stt 0 (stt 0 + 1))), (o 8, arI E 4 bo)] ((-1000000001)) := by
  refine CI.of (own := RX4) (cc := cX4_book) (nL := 5) (rt := (some .int)) (by decide) rfl rfl (Nat.le_of_ble_eq_true rfl) (fun X hX hQ => ?_)
  show G E X 5 0 [(0, .ref (o 0)), (1, .int (nI sh)), (2, .int y)] [] [(o 0, moO o ik be so tp fr tq vl wr), (o 5, arI E 7 stt), (o 8, arI E 4 bo)]
  refine G.aload_n hX 0 rfl dX4_book_0 ?_
  refine G.iload_n hX 1 rfl dX4_book_1 ?_
  refine G.vi hX (As := [.int (nI sh)]) (st := []) (wr := [(o 5, arI E 7 stt)]) (wf := [(o 0, moO o ik be so tp fr tq vl wr), (o 5, arI E 7 stt), (o 8, arI E 4 bo)]) (q0 := 0) (ci := 4) rfl rfl (c_X4_wrongSheetok _ E (sh := sh) (o := o) (ik := ik) (be := be) (so := so) (tp := tp) (fr := fr) (tq := tq) (vl := vl) (wr := wr) (bo := bo) (h1 := by omega) (h2 := h2)) gX4_book_X4_wrongSheet cp_X4_wrongSheet (by decide) [0, 2] [1] [1, 0, 2] ⟨rfl, rfl, by decide, rfl⟩ rfl rfl (Nat.le_of_ble_eq_true rfl) dX4_book_2 ?_
  refine G.istore_n hX (lv' := [(3, .int 0), (0, .ref (o 0)), (1, .int (nI sh)), (2, .int y)]) rfl (by decide) rfl dX4_book_5 ?_
  refine G.iload_n hX 0 rfl dX4_book_6 ?_
  refine G.if_eq hX (tgt := 16) (by decide) dX4_book_7 (fun _ => ?_) (fun c7 => absurd c7 (by decide))
  refine G.iload_n hX 3 rfl dX4_book_16 ?_
  refine G.s0i hX (As := [.int y]) (st := []) (c_X4_isTree _ E (x := y) ) gX4_book_X4_isTree cp_X4_isTree (by decide) rfl rfl (Nat.le_of_ble_eq_true rfl) dX4_book_17 ?_
  refine G.b_ne hX (tgt := 30) (by decide) dX4_book_20 (fun c20 => ?_) (fun c20 => ?_)
  · exact absurd h3 (by simp [c20])
  · refine G.aload_n hX 1 rfl dX4_book_23 ?_
    refine G.ldc hX (v := -1000000001) (by decide +kernel) dX4_book_24 ?_
    refine G.vi hX (As := [.int ((-1000000001))]) (st := []) (wr := [(o 8, arI E 4 bo)]) (wf := [(o 0, moO o ik be so tp fr tq vl wr), (o 5, arI E 7 (upd stt 0 (stt 0 + 1))), (o 8, arI E 4 bo)]) (q0 := 0) (ci := 4) rfl rfl (c_X4_finds0 _ E (o := o) (ik := ik) (be := be) (so := so) (tp := tp) (fr := fr) (tq := tq) (vl := vl) (wr := wr) (stt := stt) ) gX4_book_X4_finds cp_X4_finds (by decide) [0, 1] [2] [1, 2, 0] ⟨rfl, rfl, by decide, rfl⟩ rfl rfl (Nat.le_of_ble_eq_true rfl) dX4_book_26 ?_
    exact G.iret hX hQ dX4_book_29 (by rfl) (by rfl)
set_option maxHeartbeats 4000000 in
set_option maxRecDepth 100000 in
theorem c_X4_bookok (l : Launch) (E : EV) (sh : Nat) (t : Nat) (z : Nat) (o : Nat → Nat) (ik : Int32) (be : Int32) (so : Int32) (tp : Int32) (fr : Int32) (tq : Int32) (vl : Int32) (wr : Int32) (s : Nat → Int32) (asd : Nat → Int32) (ge : Nat → Int32) (bo : Nat → Int32) (szz : Nat → Int32) (nu : Nat → Int64) (h1 : sh < 4) (h2 : ¬ bo sh = 0) (h3 : t < 12) (h4 : szz sh = nI z) (h5 : z ≤ 40) : CI l yX4_book wsX4_book rmX4_book E [.ref (o 0), .int (nI sh), .int (nI t)] [(o 0, moO o ik be so tp fr tq vl wr), (o 1, arI E 122 s), (o 4, arI E 122 asd), (o 6, arI E 12 ge), (o 8, arI E 4 bo), (o 9, arI E 4 szz), (o 10, arJ E 160 nu)] [(o 0, moO o ik be so tp fr tq vl wr), (o 1, arI E 122 s), (o 4, arI E 122 s), (o 6, arI E 12 (ms_gs z s ge)), (o 8, arI E 4 bo), (o 9, arI E 4 szz), (o 10, arJ E 160 (ptN (40 * sh) z (ms_bkF (bo sh) s t) nu))] (nI z) := by
  refine CI.of (own := RX4) (cc := cX4_book) (nL := 5) (rt := (some .int)) (by decide) rfl rfl (Nat.le_of_ble_eq_true rfl) (fun X hX hQ => ?_)
  show G E X 5 0 [(0, .ref (o 0)), (1, .int (nI sh)), (2, .int (nI t))] [] [(o 0, moO o ik be so tp fr tq vl wr), (o 1, arI E 122 s), (o 4, arI E 122 asd), (o 6, arI E 12 ge), (o 8, arI E 4 bo), (o 9, arI E 4 szz), (o 10, arJ E 160 nu)]
  refine G.aload_n hX 0 rfl dX4_book_0 ?_
  refine G.iload_n hX 1 rfl dX4_book_1 ?_
  refine G.vi hX (As := [.int (nI sh)]) (st := []) (wr := [(o 1, arI E 122 s), (o 4, arI E 122 asd), (o 6, arI E 12 ge), (o 9, arI E 4 szz), (o 10, arJ E 160 nu)]) (wf := [(o 0, moO o ik be so tp fr tq vl wr), (o 1, arI E 122 s), (o 4, arI E 122 asd), (o 6, arI E 12 ge), (o 8, arI E 4 bo), (o 9, arI E 4 szz), (o 10, arJ E 160 nu)]) (q0 := 0) (ci := 4) rfl rfl (c_X4_wrongSheetok _ E (sh := sh) (o := o) (ik := ik) (be := be) (so := so) (tp := tp) (fr := fr) (tq := tq) (vl := vl) (wr := wr) (bo := bo) (h1 := by omega) (h2 := h2)) gX4_book_X4_wrongSheet cp_X4_wrongSheet (by decide) [0, 4] [1, 2, 3, 5, 6] [5, 0, 1, 2, 6, 3, 4] ⟨rfl, rfl, by decide, rfl⟩ rfl rfl (Nat.le_of_ble_eq_true rfl) dX4_book_2 ?_
  refine G.istore_n hX (lv' := [(3, .int 0), (0, .ref (o 0)), (1, .int (nI sh)), (2, .int (nI t))]) rfl (by decide) rfl dX4_book_5 ?_
  refine G.iload_n hX 0 rfl dX4_book_6 ?_
  refine G.if_eq hX (tgt := 16) (by decide) dX4_book_7 (fun _ => ?_) (fun c7 => absurd c7 (by decide))
  refine G.iload_n hX 3 rfl dX4_book_16 ?_
  refine G.s0i hX (As := [.int (nI t)]) (st := []) (c_X4_isTreen _ E (x := t) (h1 := by omega)) gX4_book_X4_isTree cp_X4_isTree (by decide) rfl rfl (Nat.le_of_ble_eq_true rfl) dX4_book_17 ?_
  refine G.if_ne hX (tgt := 30) (by decide) dX4_book_20 (fun _ => ?_) (fun c20 => absurd c20 (by decide))
  refine G.aload_n hX 1 rfl dX4_book_30 ?_
  refine G.vv hX (As := []) (st := []) (wr := [(o 6, arI E 12 ge), (o 8, arI E 4 bo), (o 9, arI E 4 szz), (o 10, arJ E 160 nu)]) (wf := [(o 0, moO o ik be so tp fr tq vl wr), (o 1, arI E 122 s), (o 4, arI E 122 s), (o 6, arI E 12 ge), (o 8, arI E 4 bo), (o 9, arI E 4 szz), (o 10, arJ E 160 nu)]) (q0 := 0) (ci := 4) rfl rfl (c_X4_laysAside _ E (o := o) (ik := ik) (be := be) (so := so) (tp := tp) (fr := fr) (tq := tq) (vl := vl) (wr := wr) (s := s) (asd := asd) ) gX4_book_X4_laysAside cp_X4_laysAside (by decide) [0, 1, 2] [3, 4, 5, 6] [4, 5, 6, 0, 1, 2, 3] ⟨rfl, rfl, by decide, rfl⟩ rfl rfl (Nat.le_of_ble_eq_true rfl) dX4_book_31 ?_
  refine G.iconst hX (v := 0) (by decide) dX4_book_34 ?_
  refine G.istore hX (lv' := [(4, .int 0), (3, .int 0), (0, .ref (o 0)), (1, .int (nI sh)), (2, .int (nI t))]) (by decide) rfl dX4_book_35 ?_
  have L37 : ∀ (n : Nat) (k : Nat), k ≤ z → z + 1 ≤ k + n → G E X 5 37 [(0, .ref (o 0)), (1, .int (nI sh)), (2, .int (nI t)), (4, .int (nI k))] [] [(o 0, moO o ik be so tp fr tq vl wr), (o 1, arI E 122 (ms_ys k s)), (o 4, arI E 122 s), (o 6, arI E 12 (ms_gs k s ge)), (o 8, arI E 4 bo), (o 9, arI E 4 szz), (o 10, arJ E 160 (ptN (40 * sh) k (ms_bkF (bo sh) s t) nu))] := by
    intro n
    induction n with
    | zero => intro k hl37_0 hl37_1; exact absurd hl37_1 (by omega)
    | succ n ih37 =>
      intro k hl37_0 hl37_1
      refine G.iload hX 3 rfl dX4_book_37 ?_
      refine G.aload_n hX 0 rfl dX4_book_39 ?_
      refine G.get hX inc_X4_book_4 0 rfl rfl 16 (by decide) (by decide +kernel) rfl dX4_book_40 ?_
      refine G.iload_n hX 1 rfl dX4_book_43 ?_
      refine G.iald hX (j := sh) 5 rfl (by omega) (by omega) dX4_book_44 ?_
      refine G.ie (y := nI z) (by exact h4) ?_
      refine G.n_ge hX (a := k) (b := z) (tgt := 85) (by omega) (by omega) (by decide) dX4_book_45 (fun c45 => ?_) (fun c45 => ?_)
      · obtain rfl : z = k := by omega
        refine G.aload_n hX 0 rfl dX4_book_85 ?_
        refine G.aload_n hX 0 rfl dX4_book_86 ?_
        refine G.get hX inc_X4_book_4 0 rfl rfl 16 (by decide) (by decide +kernel) rfl dX4_book_87 ?_
        refine G.iload_n hX 1 rfl dX4_book_90 ?_
        refine G.iald hX (j := sh) 5 rfl (by omega) (by omega) dX4_book_91 ?_
        refine G.ie (y := nI z) (by exact h4) ?_
        refine G.vi hX (As := [.int (nI z)]) (st := []) (wr := [(o 6, arI E 12 (ms_gs z s ge)), (o 8, arI E 4 bo), (o 9, arI E 4 szz), (o 10, arJ E 160 (ptN (40 * sh) z (ms_bkF (bo sh) s t) nu))]) (wf := [(o 0, moO o ik be so tp fr tq vl wr), (o 1, arI E 122 s), (o 4, arI E 122 s), (o 6, arI E 12 (ms_gs z s ge)), (o 8, arI E 4 bo), (o 9, arI E 4 szz), (o 10, arJ E 160 (ptN (40 * sh) z (ms_bkF (bo sh) s t) nu))]) (q0 := 0) (ci := 4) rfl rfl (c_X4_takesBack _ E (v := nI z) (o := o) (ik := ik) (be := be) (so := so) (tp := tp) (fr := fr) (tq := tq) (vl := vl) (wr := wr) (s := ms_ys z s) (asd := s) ) gX4_book_X4_takesBack cp_X4_takesBack (by decide) [0, 1, 2] [3, 4, 5, 6] [4, 5, 6, 0, 1, 2, 3] ⟨rfl, rfl, by decide, rfl⟩ rfl rfl (Nat.le_of_ble_eq_true rfl) dX4_book_92 ?_
        exact G.iret hX hQ dX4_book_95 (by first | rfl | (simp only [c45, ↓reduceIte, Bool.not_true, Bool.not_false, Bool.and_true, Bool.true_and, Bool.and_false, Bool.false_and, Bool.or_true, Bool.true_or, Bool.or_false, Bool.false_or, decide_true, decide_false, not_true_eq_false, not_false_eq_true, Bool.false_eq_true, Bool.true_eq_false]; done) | (simp only [c45, ↓reduceIte, Bool.not_true, Bool.not_false, Bool.and_true, Bool.true_and, Bool.and_false, Bool.false_and, Bool.or_true, Bool.true_or, Bool.or_false, Bool.false_or, decide_true, decide_false, not_true_eq_false, not_false_eq_true, Bool.false_eq_true, Bool.true_eq_false]; rfl) | (simp [c45]; done)) (by rfl)
      · refine G.aload_n hX 0 rfl dX4_book_48 ?_
        refine G.get hX inc_X4_book_4 0 rfl rfl 17 (by decide) (by decide +kernel) rfl dX4_book_49 ?_
        refine G.bipush hX (v := 40) (by decide) dX4_book_52 ?_
        refine G.iload_n hX 1 rfl dX4_book_54 ?_
        refine G.imul hX dX4_book_55 ?_
        refine G.ie (pk_mul 40 sh) ?_
        refine G.iload hX 3 rfl dX4_book_56 ?_
        refine G.iadd hX dX4_book_58 ?_
        refine G.ie (nI_add (40 * sh) k) ?_
        refine G.aload_n hX 0 rfl dX4_book_59 ?_
        refine G.get hX inc_X4_book_4 0 rfl rfl 15 (by decide) (by decide +kernel) rfl dX4_book_60 ?_
        refine G.iload_n hX 1 rfl dX4_book_63 ?_
        refine G.iald hX (j := sh) 4 rfl (by omega) (by omega) dX4_book_64 ?_
        refine G.aload_n hX 0 rfl dX4_book_65 ?_
        refine G.iload_n hX 2 rfl dX4_book_66 ?_
        refine G.vi hX (As := [.int (nI t)]) (st := [.int (bo sh), .int (nI ((40 * sh) + k)), .ref (o 10)]) (wr := [(o 4, arI E 122 s), (o 6, arI E 12 (ms_gs k s ge)), (o 8, arI E 4 bo), (o 9, arI E 4 szz), (o 10, arJ E 160 (ptN (40 * sh) k (ms_bkF (bo sh) s t) nu))]) (wf := [(o 0, moO o ik be so tp fr tq vl wr), (o 1, arI E 122 (ms_ys k s)), (o 4, arI E 122 s), (o 6, arI E 12 (ms_gs k s ge)), (o 8, arI E 4 bo), (o 9, arI E 4 szz), (o 10, arJ E 160 (ptN (40 * sh) k (ms_bkF (bo sh) s t) nu))]) (q0 := 0) (ci := 4) rfl rfl (c_X4_knownBy _ E (t := t) (o := o) (ik := ik) (be := be) (so := so) (tp := tp) (fr := fr) (tq := tq) (vl := vl) (wr := wr) (s := ms_ys k s) (h1 := by omega)) gX4_book_X4_knownBy cp_X4_knownBy (by decide) [0, 1] [2, 3, 4, 5, 6] [5, 6, 0, 1, 2, 3, 4] ⟨rfl, rfl, by decide, rfl⟩ rfl rfl (Nat.le_of_ble_eq_true rfl) dX4_book_67 ?_
        have hkb := kb_lt (ms_ys k s) t
        refine G.i2l hX dX4_book_70 ?_
        refine G.le (y := lN (ms_kb (ms_ys k s) t)) (nI_l (by omega)) ?_
        refine G.le (y := lN (ms_kb (ms_ys k s) t)) (by rfl) ?_
        refine G.s0l hX (As := [.int (bo sh), .long (lN (ms_kb (ms_ys k s) t))]) (st := [.int (nI ((40 * sh) + k)), .ref (o 10)]) (c_X4_narrowed _ E (b := bo sh) (v := lN (ms_kb (ms_ys k s) t)) ) gX4_book_X4_narrowed cp_X4_narrowed (by decide) rfl rfl (Nat.le_of_ble_eq_true rfl) dX4_book_71 ?_
        refine G.last hX (j := (40 * sh) + k) (ws' := [(o 0, moO o ik be so tp fr tq vl wr), (o 1, arI E 122 (ms_ys k s)), (o 4, arI E 122 s), (o 6, arI E 12 (ms_gs k s ge)), (o 8, arI E 4 bo), (o 9, arI E 4 szz), (o 10, arJ E 160 (vp_updL (ptN (40 * sh) k (ms_bkF (bo sh) s t) nu) ((40 * sh) + k) (nrw (bo sh) (lN (ms_kb (ms_ys k s) t)))))]) 6 rfl (by omega) (by omega) rfl rfl dX4_book_74 ?_
        refine G.aload_n hX 0 rfl dX4_book_75 ?_
        refine G.vv hX (As := []) (st := []) (wr := [(o 4, arI E 122 s), (o 8, arI E 4 bo), (o 9, arI E 4 szz), (o 10, arJ E 160 (vp_updL (ptN (40 * sh) k (ms_bkF (bo sh) s t) nu) ((40 * sh) + k) (nrw (bo sh) (lN (ms_kb (ms_ys k s) t)))))]) (wf := [(o 0, moO o ik be so tp fr tq vl wr), (o 1, arI E 122 (ms_year (ms_ys k s))), (o 4, arI E 122 s), (o 6, arI E 12 (ms_gets (ms_ys k s))), (o 8, arI E 4 bo), (o 9, arI E 4 szz), (o 10, arJ E 160 (vp_updL (ptN (40 * sh) k (ms_bkF (bo sh) s t) nu) ((40 * sh) + k) (nrw (bo sh) (lN (ms_kb (ms_ys k s) t)))))]) (q0 := 0) (ci := 4) rfl rfl (c_X4_year _ E (o := o) (ik := ik) (be := be) (so := so) (tp := tp) (fr := fr) (tq := tq) (vl := vl) (wr := wr) (s := ms_ys k s) (ge := ms_gs k s ge) ) gX4_book_X4_year cp_X4_year (by decide) [0, 1, 3] [2, 4, 5, 6] [4, 5, 0, 6, 1, 2, 3] ⟨rfl, rfl, by decide, rfl⟩ rfl rfl (Nat.le_of_ble_eq_true rfl) dX4_book_76 ?_
        refine G.iinc hX (n := 1) (lv' := [(4, .int (nI (k + 1))), (0, .ref (o 0)), (1, .int (nI sh)), (2, .int (nI t))]) 3 rfl (inc_nI k 1 rfl) (by decide) rfl dX4_book_79 ?_
        refine G.goto hX (tgt := 37) (by decide) dX4_book_82 ?_
        refine G.lvp (lv' := [(0, .ref (o 0)), (1, .int (nI sh)), (2, .int (nI t)), (4, .int (nI (k + 1)))]) [1, 2, 3, 0] rfl ?_
        refine G.lve (lv' := [(0, .ref (o 0)), (1, .int (nI sh)), (2, .int (nI t)), (4, .int (nI ((k + 1))))]) (by rfl) ?_
        refine G.we (ws' := [(o 0, moO o ik be so tp fr tq vl wr), (o 1, arI E 122 (ms_ys (k + 1) s)), (o 4, arI E 122 s), (o 6, arI E 12 (ms_gs (k + 1) s ge)), (o 8, arI E 4 bo), (o 9, arI E 4 szz), (o 10, arJ E 160 (ptN (40 * sh) (k + 1) (ms_bkF (bo sh) s t) nu))]) (by rw [← ptN_s]; rfl) ?_
        exact ih37 (k + 1) (by omega) (by omega)
  refine G.lvp (lv' := [(0, .ref (o 0)), (1, .int (nI sh)), (2, .int (nI t)), (4, .int 0)]) [2, 3, 4, 0] rfl ?_
  refine G.lve (lv' := [(0, .ref (o 0)), (1, .int (nI sh)), (2, .int (nI t)), (4, .int (nI 0))]) (by rfl) ?_
  refine G.we (ws' := [(o 0, moO o ik be so tp fr tq vl wr), (o 1, arI E 122 (ms_ys 0 s)), (o 4, arI E 122 s), (o 6, arI E 12 (ms_gs 0 s ge)), (o 8, arI E 4 bo), (o 9, arI E 4 szz), (o 10, arJ E 160 (ptN (40 * sh) 0 (ms_bkF (bo sh) s t) nu))]) (by rw [ptN_0]; rfl) ?_
  exact L37 (z + 1) 0 (by omega) (by omega)
abbrev rmX4_isBook : Room := { frames := 7, cells := 0, slots := 0, locals := 157 }
theorem cp_X4_isBook : CP yX4_isBook RX4 wsX4_isBook 4 2 rmX4_isBook := ⟨⟨_, _, _, rfl⟩, rfl, rfl, by decide +kernel⟩
theorem inc_X4_isBook_4 : ∀ w ∈ u_ws RX4 TX4 19, w ∈ wsX4_isBook := by decide +kernel
set_option maxHeartbeats 4000000 in
set_option maxRecDepth 100000 in
theorem c_X4_isBook (l : Launch) (E : EV) (sh : Nat) (t : Nat) (z : Nat) (o : Nat → Nat) (ik : Int32) (be : Int32) (so : Int32) (tp : Int32) (fr : Int32) (tq : Int32) (vl : Int32) (wr : Int32) (s : Nat → Int32) (ge : Nat → Int32) (szz : Nat → Int32) (nu : Nat → Int64) (h1 : sh < 4) (h2 : t < 12) (h3 : szz sh = nI z) (h4 : z ≤ 40) : CI l yX4_isBook wsX4_isBook rmX4_isBook E [.ref (o 0), .int (nI sh), .int (nI t)] [(o 0, moO o ik be so tp fr tq vl wr), (o 1, arI E 122 s), (o 6, arI E 12 ge), (o 9, arI E 4 szz), (o 10, arJ E 160 nu)] [(o 0, moO o ik be so tp fr tq vl wr), (o 1, arI E 122 (ms_ys (ms_rd nu (40 * sh) z s t) s)), (o 6, arI E 12 (ms_gs (ms_rd nu (40 * sh) z s t) s ge)), (o 9, arI E 4 szz), (o 10, arJ E 160 nu)] (bI (decide (z ≤ ms_rd nu (40 * sh) z s t))) := by
  refine CI.of (own := RX4) (cc := cX4_isBook) (nL := 4) (rt := (some .boolean)) (by decide) rfl rfl (Nat.le_of_ble_eq_true rfl) (fun X hX hQ => ?_)
  show G E X 4 0 [(0, .ref (o 0)), (1, .int (nI sh)), (2, .int (nI t))] [] [(o 0, moO o ik be so tp fr tq vl wr), (o 1, arI E 122 s), (o 6, arI E 12 ge), (o 9, arI E 4 szz), (o 10, arJ E 160 nu)]
  refine G.iconst hX (v := 0) (by decide) dX4_isBook_0 ?_
  refine G.istore_n hX (lv' := [(3, .int 0), (0, .ref (o 0)), (1, .int (nI sh)), (2, .int (nI t))]) rfl (by decide) rfl dX4_isBook_1 ?_
  have L2 : ∀ (n : Nat) (k : Nat), k ≤ z → ms_rd nu (40 * sh) z s t = ff (ms_rdP nu (40 * sh) s t) (z - k) k → z + 1 ≤ k + n → G E X 4 2 [(0, .ref (o 0)), (1, .int (nI sh)), (2, .int (nI t)), (3, .int (nI k))] [] [(o 0, moO o ik be so tp fr tq vl wr), (o 1, arI E 122 (ms_ys k s)), (o 6, arI E 12 (ms_gs k s ge)), (o 9, arI E 4 szz), (o 10, arJ E 160 nu)] := by
    intro n
    induction n with
    | zero => intro k hl2_0 hl2_1 hl2_2; exact absurd hl2_2 (by omega)
    | succ n ih2 =>
      intro k hl2_0 hl2_1 hl2_2
      refine G.iload_n hX 3 rfl dX4_isBook_2 ?_
      refine G.aload_n hX 0 rfl dX4_isBook_3 ?_
      refine G.get hX inc_X4_isBook_4 0 rfl rfl 16 (by decide) (by decide +kernel) rfl dX4_isBook_4 ?_
      refine G.iload_n hX 1 rfl dX4_isBook_7 ?_
      refine G.iald hX (j := sh) 3 rfl (by omega) (by omega) dX4_isBook_8 ?_
      refine G.ie (y := nI z) (by exact h3) ?_
      refine G.n_ge hX (a := k) (b := z) (tgt := 45) (by omega) (by omega) (by decide) dX4_isBook_9 (fun c9 => ?_) (fun c9 => ?_)
      · refine G.iconst hX (v := 1) (by decide) dX4_isBook_45 ?_
        exact G.zret hX hQ rfl dX4_isBook_46 (by have er : ms_rd nu (40 * sh) z s t = k := (by first | (rw [hl2_1]; exact ff_t (by omega) (by simp [ms_rdP, c9])) | (obtain rfl : k = z := (by omega); rw [hl2_1, Nat.sub_self]; rfl)); rw [er]; first | rfl | (simp [bI]; done) | (simp [bI]; omega)) (by have er : ms_rd nu (40 * sh) z s t = k := (by first | (rw [hl2_1]; exact ff_t (by omega) (by simp [ms_rdP, c9])) | (obtain rfl : k = z := (by omega); rw [hl2_1, Nat.sub_self]; rfl)); rw [er])
      · refine G.aload_n hX 0 rfl dX4_isBook_12 ?_
        refine G.get hX inc_X4_isBook_4 0 rfl rfl 17 (by decide) (by decide +kernel) rfl dX4_isBook_13 ?_
        refine G.bipush hX (v := 40) (by decide) dX4_isBook_16 ?_
        refine G.iload_n hX 1 rfl dX4_isBook_18 ?_
        refine G.imul hX dX4_isBook_19 ?_
        refine G.ie (pk_mul 40 sh) ?_
        refine G.iload_n hX 3 rfl dX4_isBook_20 ?_
        refine G.iadd hX dX4_isBook_21 ?_
        refine G.ie (nI_add (40 * sh) k) ?_
        refine G.lald hX (j := (40 * sh) + k) 4 rfl (by omega) (by omega) dX4_isBook_22 ?_
        refine G.aload_n hX 0 rfl dX4_isBook_23 ?_
        refine G.iload_n hX 2 rfl dX4_isBook_24 ?_
        refine G.vi hX (As := [.int (nI t)]) (st := [.long (nu ((40 * sh) + k))]) (wr := [(o 6, arI E 12 (ms_gs k s ge)), (o 9, arI E 4 szz), (o 10, arJ E 160 nu)]) (wf := [(o 0, moO o ik be so tp fr tq vl wr), (o 1, arI E 122 (ms_ys k s)), (o 6, arI E 12 (ms_gs k s ge)), (o 9, arI E 4 szz), (o 10, arJ E 160 nu)]) (q0 := 0) (ci := 4) rfl rfl (c_X4_knownBy _ E (t := t) (o := o) (ik := ik) (be := be) (so := so) (tp := tp) (fr := fr) (tq := tq) (vl := vl) (wr := wr) (s := ms_ys k s) (h1 := by omega)) gX4_isBook_X4_knownBy cp_X4_knownBy (by decide) [0, 1] [2, 3, 4] [3, 4, 0, 1, 2] ⟨rfl, rfl, by decide, rfl⟩ rfl rfl (Nat.le_of_ble_eq_true rfl) dX4_isBook_25 ?_
        have hkb := kb_lt (ms_ys k s) t
        refine G.i2l hX dX4_isBook_28 ?_
        refine G.le (y := lN (ms_kb (ms_ys k s) t)) (nI_l (by omega)) ?_
        refine G.le (y := lN (ms_kb (ms_ys k s) t)) (by rfl) ?_
        refine G.lcmp hX dX4_isBook_29 ?_
        refine G.c_eq hX (tgt := 35) (by decide) dX4_isBook_30 (fun c30 => ?_) (fun c30 => ?_)
        · refine G.aload_n hX 0 rfl dX4_isBook_35 ?_
          refine G.vv hX (As := []) (st := []) (wr := [(o 9, arI E 4 szz), (o 10, arJ E 160 nu)]) (wf := [(o 0, moO o ik be so tp fr tq vl wr), (o 1, arI E 122 (ms_year (ms_ys k s))), (o 6, arI E 12 (ms_gets (ms_ys k s))), (o 9, arI E 4 szz), (o 10, arJ E 160 nu)]) (q0 := 0) (ci := 4) rfl rfl (c_X4_year _ E (o := o) (ik := ik) (be := be) (so := so) (tp := tp) (fr := fr) (tq := tq) (vl := vl) (wr := wr) (s := ms_ys k s) (ge := ms_gs k s ge) ) gX4_isBook_X4_year cp_X4_year (by decide) [0, 1, 2] [3, 4] [2, 3, 4, 0, 1] ⟨rfl, rfl, by decide, rfl⟩ rfl rfl (Nat.le_of_ble_eq_true rfl) dX4_isBook_36 ?_
          refine G.iinc hX (n := 1) (lv' := [(3, .int (nI (k + 1))), (0, .ref (o 0)), (1, .int (nI sh)), (2, .int (nI t))]) 3 rfl (inc_nI k 1 rfl) (by decide) rfl dX4_isBook_39 ?_
          refine G.goto hX (tgt := 2) (by decide) dX4_isBook_42 ?_
          refine G.lvp (lv' := [(0, .ref (o 0)), (1, .int (nI sh)), (2, .int (nI t)), (3, .int (nI (k + 1)))]) [1, 2, 3, 0] rfl ?_
          refine G.lve (lv' := [(0, .ref (o 0)), (1, .int (nI sh)), (2, .int (nI t)), (3, .int (nI ((k + 1))))]) (by rfl) ?_
          refine G.we (ws' := [(o 0, moO o ik be so tp fr tq vl wr), (o 1, arI E 122 (ms_ys (k + 1) s)), (o 6, arI E 12 (ms_gs (k + 1) s ge)), (o 9, arI E 4 szz), (o 10, arJ E 160 nu)]) (by rfl) ?_
          exact ih2 (k + 1) (by omega) (by rw [hl2_1]; exact ff_f (by omega) (by simp [ms_rdP, c9, c30])) (by omega)
        · refine G.iconst hX (v := 0) (by decide) dX4_isBook_33 ?_
          exact G.zret hX hQ rfl dX4_isBook_34 (by have er : ms_rd nu (40 * sh) z s t = k := (by first | (rw [hl2_1]; exact ff_t (by omega) (by simp [ms_rdP, c9, c30])) | (obtain rfl : k = z := (by omega); rw [hl2_1, Nat.sub_self]; rfl)); rw [er]; first | rfl | (simp [bI]; done) | (simp [bI]; omega)) (by have er : ms_rd nu (40 * sh) z s t = k := (by first | (rw [hl2_1]; exact ff_t (by omega) (by simp [ms_rdP, c9, c30])) | (obtain rfl : k = z := (by omega); rw [hl2_1, Nat.sub_self]; rfl)); rw [er])
  refine G.lvp (lv' := [(0, .ref (o 0)), (1, .int (nI sh)), (2, .int (nI t)), (3, .int 0)]) [1, 2, 3, 0] rfl ?_
  refine G.lve (lv' := [(0, .ref (o 0)), (1, .int (nI sh)), (2, .int (nI t)), (3, .int (nI 0))]) (by rfl) ?_
  refine G.we (ws' := [(o 0, moO o ik be so tp fr tq vl wr), (o 1, arI E 122 (ms_ys 0 s)), (o 6, arI E 12 (ms_gs 0 s ge)), (o 9, arI E 4 szz), (o 10, arJ E 160 nu)]) (by rfl) ?_
  exact L2 (z + 1) 0 (by omega) rfl (by omega)
abbrev rmX4_read : Room := { frames := 8, cells := 0, slots := 0, locals := 180 }
theorem cp_X4_read : CP yX4_read RX4 wsX4_read 7 3 rmX4_read := ⟨⟨_, _, _, rfl⟩, rfl, rfl, by decide +kernel⟩
theorem inc_X4_read_4 : ∀ w ∈ u_ws RX4 TX4 19, w ∈ wsX4_read := by decide +kernel
set_option maxHeartbeats 4000000 in
set_option maxRecDepth 100000 in
theorem c_X4_readbad (l : Launch) (E : EV) (x : Int32) (y : Int32) (w : Int32) (o : Nat → Nat) (ik : Int32) (be : Int32) (so : Int32) (tp : Int32) (fr : Int32) (tq : Int32) (vl : Int32) (wr : Int32) (stt : Nat → Int32) (bo : Nat → Int32) (h1 : inI x 0 3 = false) : CI l yX4_read wsX4_read rmX4_read E [.ref (o 0), .int x, .int y, .int w] [(o 0, moO o ik be so tp fr tq vl wr), (o 5, arI E 7 stt), (o 8, arI E 4 bo)] [(o 0, moO o ik be so tp fr tq vl wr), (o 5, arI E 7 (upd stt 0 (stt 0 + 1))), (o 8, arI E 4 bo)] ((-1000000001)) := by
  refine CI.of (own := RX4) (cc := cX4_read) (nL := 7) (rt := (some .int)) (by decide) rfl rfl (Nat.le_of_ble_eq_true rfl) (fun X hX hQ => ?_)
  show G E X 7 0 [(0, .ref (o 0)), (1, .int x), (2, .int y), (3, .int w)] [] [(o 0, moO o ik be so tp fr tq vl wr), (o 5, arI E 7 stt), (o 8, arI E 4 bo)]
  refine G.aload_n hX 0 rfl dX4_read_0 ?_
  refine G.iload_n hX 1 rfl dX4_read_1 ?_
  refine G.vi hX (As := [.int x]) (st := []) (wr := [(o 5, arI E 7 stt)]) (wf := [(o 0, moO o ik be so tp fr tq vl wr), (o 5, arI E 7 stt), (o 8, arI E 4 bo)]) (q0 := 0) (ci := 4) rfl rfl (c_X4_wrongSheetbad _ E (x := x) (o := o) (ik := ik) (be := be) (so := so) (tp := tp) (fr := fr) (tq := tq) (vl := vl) (wr := wr) (bo := bo) (h1 := by omega)) gX4_read_X4_wrongSheet cp_X4_wrongSheet (by decide) [0, 2] [1] [1, 0, 2] ⟨rfl, rfl, by decide, rfl⟩ rfl rfl (Nat.le_of_ble_eq_true rfl) dX4_read_2 ?_
  refine G.istore hX (lv' := [(4, .int ((-1000000001))), (0, .ref (o 0)), (1, .int x), (2, .int y), (3, .int w)]) (by decide) rfl dX4_read_5 ?_
  refine G.iload hX 0 rfl dX4_read_7 ?_
  refine G.if_eq hX (tgt := 19) (by decide) dX4_read_9 (fun c9 => absurd c9 (by decide)) (fun _ => ?_)
  refine G.aload_n hX 1 rfl dX4_read_12 ?_
  refine G.iload hX 0 rfl dX4_read_13 ?_
  refine G.vi hX (As := [.int ((-1000000001))]) (st := []) (wr := [(o 8, arI E 4 bo)]) (wf := [(o 0, moO o ik be so tp fr tq vl wr), (o 5, arI E 7 (upd stt 0 (stt 0 + 1))), (o 8, arI E 4 bo)]) (q0 := 0) (ci := 4) rfl rfl (c_X4_finds0 _ E (o := o) (ik := ik) (be := be) (so := so) (tp := tp) (fr := fr) (tq := tq) (vl := vl) (wr := wr) (stt := stt) ) gX4_read_X4_finds cp_X4_finds (by decide) [0, 1] [2] [1, 2, 0] ⟨rfl, rfl, by decide, rfl⟩ rfl rfl (Nat.le_of_ble_eq_true rfl) dX4_read_15 ?_
  exact G.iret hX hQ dX4_read_18 (by rfl) (by rfl)
set_option maxHeartbeats 4000000 in
set_option maxRecDepth 100000 in
theorem c_X4_readmis (l : Launch) (E : EV) (sh : Nat) (y : Int32) (w : Int32) (o : Nat → Nat) (ik : Int32) (be : Int32) (so : Int32) (tp : Int32) (fr : Int32) (tq : Int32) (vl : Int32) (wr : Int32) (stt : Nat → Int32) (bo : Nat → Int32) (h1 : sh < 4) (h2 : bo sh = 0) : CI l yX4_read wsX4_read rmX4_read E [.ref (o 0), .int (nI sh), .int y, .int w] [(o 0, moO o ik be so tp fr tq vl wr), (o 5, arI E 7 stt), (o 8, arI E 4 bo)] [(o 0, moO o ik be so tp fr tq vl wr), (o 5, arI E 7 (upd stt 5 (stt 5 + 1))), (o 8, arI E 4 bo)] ((-1000000006)) := by
  refine CI.of (own := RX4) (cc := cX4_read) (nL := 7) (rt := (some .int)) (by decide) rfl rfl (Nat.le_of_ble_eq_true rfl) (fun X hX hQ => ?_)
  show G E X 7 0 [(0, .ref (o 0)), (1, .int (nI sh)), (2, .int y), (3, .int w)] [] [(o 0, moO o ik be so tp fr tq vl wr), (o 5, arI E 7 stt), (o 8, arI E 4 bo)]
  refine G.aload_n hX 0 rfl dX4_read_0 ?_
  refine G.iload_n hX 1 rfl dX4_read_1 ?_
  refine G.vi hX (As := [.int (nI sh)]) (st := []) (wr := [(o 5, arI E 7 stt)]) (wf := [(o 0, moO o ik be so tp fr tq vl wr), (o 5, arI E 7 stt), (o 8, arI E 4 bo)]) (q0 := 0) (ci := 4) rfl rfl (c_X4_wrongSheetmis _ E (sh := sh) (o := o) (ik := ik) (be := be) (so := so) (tp := tp) (fr := fr) (tq := tq) (vl := vl) (wr := wr) (bo := bo) (h1 := by omega) (h2 := h2)) gX4_read_X4_wrongSheet cp_X4_wrongSheet (by decide) [0, 2] [1] [1, 0, 2] ⟨rfl, rfl, by decide, rfl⟩ rfl rfl (Nat.le_of_ble_eq_true rfl) dX4_read_2 ?_
  refine G.istore hX (lv' := [(4, .int ((-1000000006))), (0, .ref (o 0)), (1, .int (nI sh)), (2, .int y), (3, .int w)]) (by decide) rfl dX4_read_5 ?_
  refine G.iload hX 0 rfl dX4_read_7 ?_
  refine G.if_eq hX (tgt := 19) (by decide) dX4_read_9 (fun c9 => absurd c9 (by decide)) (fun _ => ?_)
  refine G.aload_n hX 1 rfl dX4_read_12 ?_
  refine G.iload hX 0 rfl dX4_read_13 ?_
  refine G.vi hX (As := [.int ((-1000000006))]) (st := []) (wr := [(o 8, arI E 4 bo)]) (wf := [(o 0, moO o ik be so tp fr tq vl wr), (o 5, arI E 7 (upd stt 5 (stt 5 + 1))), (o 8, arI E 4 bo)]) (q0 := 0) (ci := 4) rfl rfl (c_X4_finds5 _ E (o := o) (ik := ik) (be := be) (so := so) (tp := tp) (fr := fr) (tq := tq) (vl := vl) (wr := wr) (stt := stt) ) gX4_read_X4_finds cp_X4_finds (by decide) [0, 1] [2] [1, 2, 0] ⟨rfl, rfl, by decide, rfl⟩ rfl rfl (Nat.le_of_ble_eq_true rfl) dX4_read_15 ?_
  exact G.iret hX hQ dX4_read_18 (by rfl) (by rfl)
set_option maxHeartbeats 4000000 in
set_option maxRecDepth 100000 in
theorem c_X4_readbey (l : Launch) (E : EV) (sh : Nat) (y : Int32) (w : Int32) (o : Nat → Nat) (ik : Int32) (be : Int32) (so : Int32) (tp : Int32) (fr : Int32) (tq : Int32) (vl : Int32) (wr : Int32) (stt : Nat → Int32) (bo : Nat → Int32) (h1 : sh < 4) (h2 : ¬ bo sh = 0) (h3 : (inI y 0 11 && (inI w 0 11 && !(decide (y = w)))) = false) : CI l yX4_read wsX4_read rmX4_read E [.ref (o 0), .int (nI sh), .int y, .int w] [(o 0, moO o ik be so tp fr tq vl wr), (o 5, arI E 7 stt), (o 8, arI E 4 bo)] [(o 0, moO o ik be so tp fr tq vl wr), (o 5, arI E 7 (upd stt 0 (stt 0 + 1))), (o 8, arI E 4 bo)] ((-1000000001)) := by
  refine CI.of (own := RX4) (cc := cX4_read) (nL := 7) (rt := (some .int)) (by decide) rfl rfl (Nat.le_of_ble_eq_true rfl) (fun X hX hQ => ?_)
  show G E X 7 0 [(0, .ref (o 0)), (1, .int (nI sh)), (2, .int y), (3, .int w)] [] [(o 0, moO o ik be so tp fr tq vl wr), (o 5, arI E 7 stt), (o 8, arI E 4 bo)]
  refine G.aload_n hX 0 rfl dX4_read_0 ?_
  refine G.iload_n hX 1 rfl dX4_read_1 ?_
  refine G.vi hX (As := [.int (nI sh)]) (st := []) (wr := [(o 5, arI E 7 stt)]) (wf := [(o 0, moO o ik be so tp fr tq vl wr), (o 5, arI E 7 stt), (o 8, arI E 4 bo)]) (q0 := 0) (ci := 4) rfl rfl (c_X4_wrongSheetok _ E (sh := sh) (o := o) (ik := ik) (be := be) (so := so) (tp := tp) (fr := fr) (tq := tq) (vl := vl) (wr := wr) (bo := bo) (h1 := by omega) (h2 := h2)) gX4_read_X4_wrongSheet cp_X4_wrongSheet (by decide) [0, 2] [1] [1, 0, 2] ⟨rfl, rfl, by decide, rfl⟩ rfl rfl (Nat.le_of_ble_eq_true rfl) dX4_read_2 ?_
  refine G.istore hX (lv' := [(4, .int 0), (0, .ref (o 0)), (1, .int (nI sh)), (2, .int y), (3, .int w)]) (by decide) rfl dX4_read_5 ?_
  refine G.iload hX 0 rfl dX4_read_7 ?_
  refine G.if_eq hX (tgt := 19) (by decide) dX4_read_9 (fun _ => ?_) (fun c9 => absurd c9 (by decide))
  refine G.iload_n hX 3 rfl dX4_read_19 ?_
  refine G.s0i hX (As := [.int y]) (st := []) (c_X4_isTree _ E (x := y) ) gX4_read_X4_isTree cp_X4_isTree (by decide) rfl rfl (Nat.le_of_ble_eq_true rfl) dX4_read_20 ?_
  refine G.b_eq hX (tgt := 38) (by decide) dX4_read_23 (fun c23 => ?_) (fun c23 => ?_)
  · refine G.aload_n hX 1 rfl dX4_read_38 ?_
    refine G.ldc hX (v := -1000000001) (by decide +kernel) dX4_read_39 ?_
    refine G.vi hX (As := [.int ((-1000000001))]) (st := []) (wr := [(o 8, arI E 4 bo)]) (wf := [(o 0, moO o ik be so tp fr tq vl wr), (o 5, arI E 7 (upd stt 0 (stt 0 + 1))), (o 8, arI E 4 bo)]) (q0 := 0) (ci := 4) rfl rfl (c_X4_finds0 _ E (o := o) (ik := ik) (be := be) (so := so) (tp := tp) (fr := fr) (tq := tq) (vl := vl) (wr := wr) (stt := stt) ) gX4_read_X4_finds cp_X4_finds (by decide) [0, 1] [2] [1, 2, 0] ⟨rfl, rfl, by decide, rfl⟩ rfl rfl (Nat.le_of_ble_eq_true rfl) dX4_read_41 ?_
    exact G.iret hX hQ dX4_read_44 (by rfl) (by rfl)
  · refine G.iload_n hX 4 rfl dX4_read_26 ?_
    refine G.s0i hX (As := [.int w]) (st := []) (c_X4_isTree _ E (x := w) ) gX4_read_X4_isTree cp_X4_isTree (by decide) rfl rfl (Nat.le_of_ble_eq_true rfl) dX4_read_27 ?_
    refine G.b_eq hX (tgt := 38) (by decide) dX4_read_30 (fun c30 => ?_) (fun c30 => ?_)
    · refine G.aload_n hX 1 rfl dX4_read_38 ?_
      refine G.ldc hX (v := -1000000001) (by decide +kernel) dX4_read_39 ?_
      refine G.vi hX (As := [.int ((-1000000001))]) (st := []) (wr := [(o 8, arI E 4 bo)]) (wf := [(o 0, moO o ik be so tp fr tq vl wr), (o 5, arI E 7 (upd stt 0 (stt 0 + 1))), (o 8, arI E 4 bo)]) (q0 := 0) (ci := 4) rfl rfl (c_X4_finds0 _ E (o := o) (ik := ik) (be := be) (so := so) (tp := tp) (fr := fr) (tq := tq) (vl := vl) (wr := wr) (stt := stt) ) gX4_read_X4_finds cp_X4_finds (by decide) [0, 1] [2] [1, 2, 0] ⟨rfl, rfl, by decide, rfl⟩ rfl rfl (Nat.le_of_ble_eq_true rfl) dX4_read_41 ?_
      exact G.iret hX hQ dX4_read_44 (by rfl) (by rfl)
    · refine G.iload_n hX 3 rfl dX4_read_33 ?_
      refine G.iload_n hX 4 rfl dX4_read_34 ?_
      refine G.icmp_ne hX (tgt := 45) (by decide) dX4_read_35 (fun c35 => ?_) (fun c35 => ?_)
      · exact absurd h3 (by simp [c23, c30, c35])
      · refine G.aload_n hX 1 rfl dX4_read_38 ?_
        refine G.ldc hX (v := -1000000001) (by decide +kernel) dX4_read_39 ?_
        refine G.vi hX (As := [.int ((-1000000001))]) (st := []) (wr := [(o 8, arI E 4 bo)]) (wf := [(o 0, moO o ik be so tp fr tq vl wr), (o 5, arI E 7 (upd stt 0 (stt 0 + 1))), (o 8, arI E 4 bo)]) (q0 := 0) (ci := 4) rfl rfl (c_X4_finds0 _ E (o := o) (ik := ik) (be := be) (so := so) (tp := tp) (fr := fr) (tq := tq) (vl := vl) (wr := wr) (stt := stt) ) gX4_read_X4_finds cp_X4_finds (by decide) [0, 1] [2] [1, 2, 0] ⟨rfl, rfl, by decide, rfl⟩ rfl rfl (Nat.le_of_ble_eq_true rfl) dX4_read_41 ?_
        exact G.iret hX hQ dX4_read_44 (by rfl) (by rfl)
set_option maxHeartbeats 4000000 in
set_option maxRecDepth 100000 in
theorem c_X4_readok (l : Launch) (E : EV) (sh : Nat) (t : Nat) (u : Nat) (z : Nat) (o : Nat → Nat) (ik : Int32) (be : Int32) (so : Int32) (tp : Int32) (fr : Int32) (tq : Int32) (vl : Int32) (wr : Int32) (s : Nat → Int32) (asd : Nat → Int32) (ge : Nat → Int32) (bo : Nat → Int32) (szz : Nat → Int32) (nu : Nat → Int64) (h1 : sh < 4) (h2 : ¬ bo sh = 0) (h3 : t < 12) (h4 : u < 12) (h5 : t ≠ u) (h6 : szz sh = nI z) (h7 : z ≤ 40) : CI l yX4_read wsX4_read rmX4_read E [.ref (o 0), .int (nI sh), .int (nI t), .int (nI u)] [(o 0, moO o ik be so tp fr tq vl wr), (o 1, arI E 122 s), (o 4, arI E 122 asd), (o 6, arI E 12 ge), (o 8, arI E 4 bo), (o 9, arI E 4 szz), (o 10, arJ E 160 nu)] [(o 0, moO o ik be so tp fr tq vl wr), (o 1, arI E 122 s), (o 4, arI E 122 s), (o 6, arI E 12 ((it (ms_rdS nu (40 * sh) z s t u) 36 (0, ge)).2)), (o 8, arI E 4 bo), (o 9, arI E 4 szz), (o 10, arJ E 160 nu)] (nI ((it (ms_rdS nu (40 * sh) z s t u) 36 (0, ge)).1)) := by
  refine CI.of (own := RX4) (cc := cX4_read) (nL := 7) (rt := (some .int)) (by decide) rfl rfl (Nat.le_of_ble_eq_true rfl) (fun X hX hQ => ?_)
  show G E X 7 0 [(0, .ref (o 0)), (1, .int (nI sh)), (2, .int (nI t)), (3, .int (nI u))] [] [(o 0, moO o ik be so tp fr tq vl wr), (o 1, arI E 122 s), (o 4, arI E 122 asd), (o 6, arI E 12 ge), (o 8, arI E 4 bo), (o 9, arI E 4 szz), (o 10, arJ E 160 nu)]
  refine G.aload_n hX 0 rfl dX4_read_0 ?_
  refine G.iload_n hX 1 rfl dX4_read_1 ?_
  refine G.vi hX (As := [.int (nI sh)]) (st := []) (wr := [(o 1, arI E 122 s), (o 4, arI E 122 asd), (o 6, arI E 12 ge), (o 9, arI E 4 szz), (o 10, arJ E 160 nu)]) (wf := [(o 0, moO o ik be so tp fr tq vl wr), (o 1, arI E 122 s), (o 4, arI E 122 asd), (o 6, arI E 12 ge), (o 8, arI E 4 bo), (o 9, arI E 4 szz), (o 10, arJ E 160 nu)]) (q0 := 0) (ci := 4) rfl rfl (c_X4_wrongSheetok _ E (sh := sh) (o := o) (ik := ik) (be := be) (so := so) (tp := tp) (fr := fr) (tq := tq) (vl := vl) (wr := wr) (bo := bo) (h1 := by omega) (h2 := h2)) gX4_read_X4_wrongSheet cp_X4_wrongSheet (by decide) [0, 4] [1, 2, 3, 5, 6] [5, 0, 1, 2, 6, 3, 4] ⟨rfl, rfl, by decide, rfl⟩ rfl rfl (Nat.le_of_ble_eq_true rfl) dX4_read_2 ?_
  refine G.istore hX (lv' := [(4, .int 0), (0, .ref (o 0)), (1, .int (nI sh)), (2, .int (nI t)), (3, .int (nI u))]) (by decide) rfl dX4_read_5 ?_
  refine G.iload hX 0 rfl dX4_read_7 ?_
  refine G.if_eq hX (tgt := 19) (by decide) dX4_read_9 (fun _ => ?_) (fun c9 => absurd c9 (by decide))
  refine G.iload_n hX 3 rfl dX4_read_19 ?_
  refine G.s0i hX (As := [.int (nI t)]) (st := []) (c_X4_isTreen _ E (x := t) (h1 := by omega)) gX4_read_X4_isTree cp_X4_isTree (by decide) rfl rfl (Nat.le_of_ble_eq_true rfl) dX4_read_20 ?_
  refine G.if_eq hX (tgt := 38) (by decide) dX4_read_23 (fun c23 => absurd c23 (by decide)) (fun _ => ?_)
  refine G.iload_n hX 4 rfl dX4_read_26 ?_
  refine G.s0i hX (As := [.int (nI u)]) (st := []) (c_X4_isTreen _ E (x := u) (h1 := by omega)) gX4_read_X4_isTree cp_X4_isTree (by decide) rfl rfl (Nat.le_of_ble_eq_true rfl) dX4_read_27 ?_
  refine G.if_eq hX (tgt := 38) (by decide) dX4_read_30 (fun c30 => absurd c30 (by decide)) (fun _ => ?_)
  refine G.iload_n hX 3 rfl dX4_read_33 ?_
  refine G.iload_n hX 4 rfl dX4_read_34 ?_
  refine G.n_ne hX (a := t) (b := u) (tgt := 45) (by omega) (by omega) (by decide) dX4_read_35 (fun c35 => ?_) (fun c35 => ?_)
  · refine G.aload_n hX 1 rfl dX4_read_45 ?_
    refine G.vv hX (As := []) (st := []) (wr := [(o 6, arI E 12 ge), (o 8, arI E 4 bo), (o 9, arI E 4 szz), (o 10, arJ E 160 nu)]) (wf := [(o 0, moO o ik be so tp fr tq vl wr), (o 1, arI E 122 s), (o 4, arI E 122 s), (o 6, arI E 12 ge), (o 8, arI E 4 bo), (o 9, arI E 4 szz), (o 10, arJ E 160 nu)]) (q0 := 0) (ci := 4) rfl rfl (c_X4_laysAside _ E (o := o) (ik := ik) (be := be) (so := so) (tp := tp) (fr := fr) (tq := tq) (vl := vl) (wr := wr) (s := s) (asd := asd) ) gX4_read_X4_laysAside cp_X4_laysAside (by decide) [0, 1, 2] [3, 4, 5, 6] [4, 5, 6, 0, 1, 2, 3] ⟨rfl, rfl, by decide, rfl⟩ rfl rfl (Nat.le_of_ble_eq_true rfl) dX4_read_46 ?_
    refine G.iconst hX (v := 0) (by decide) dX4_read_49 ?_
    refine G.istore hX (lv' := [(5, .int 0), (4, .int 0), (0, .ref (o 0)), (1, .int (nI sh)), (2, .int (nI t)), (3, .int (nI u))]) (by decide) rfl dX4_read_50 ?_
    refine G.iconst hX (v := 0) (by decide) dX4_read_52 ?_
    refine G.istore hX (lv' := [(6, .int 0), (5, .int 0), (4, .int 0), (0, .ref (o 0)), (1, .int (nI sh)), (2, .int (nI t)), (3, .int (nI u))]) (by decide) rfl dX4_read_53 ?_
    have L55 : ∀ (n : Nat) (p : Nat), p ≤ 36 → 37 ≤ p + n → G E X 7 55 [(0, .ref (o 0)), (1, .int (nI sh)), (2, .int (nI t)), (3, .int (nI u)), (5, .int (nI ((it (ms_rdS nu (40 * sh) z s t u) p (0, ge)).1))), (6, .int (nI p))] [] [(o 0, moO o ik be so tp fr tq vl wr), (o 1, arI E 122 s), (o 4, arI E 122 s), (o 6, arI E 12 ((it (ms_rdS nu (40 * sh) z s t u) p (0, ge)).2)), (o 8, arI E 4 bo), (o 9, arI E 4 szz), (o 10, arJ E 160 nu)] := by
      intro n
      induction n with
      | zero => intro p hl55_0 hl55_1; exact absurd hl55_1 (by omega)
      | succ n ih55 =>
        intro p hl55_0 hl55_1
        refine G.iload hX 5 rfl dX4_read_55 ?_
        refine G.bipush hX (v := 36) (by decide) dX4_read_57 ?_
        refine G.n_ge hX (a := p) (b := 36) (tgt := 121) (by omega) (by omega) (by decide) dX4_read_59 (fun c59 => ?_) (fun c59 => ?_)
        · refine G.iload hX 4 rfl dX4_read_121 ?_
          exact G.iret hX hQ dX4_read_123 (by obtain rfl : p = 36 := (by omega); rfl) (by obtain rfl : p = 36 := (by omega); rfl)
        · refine G.aload_n hX 0 rfl dX4_read_62 ?_
          refine G.get hX inc_X4_read_4 0 rfl rfl 0 (by decide) (by decide +kernel) rfl dX4_read_63 ?_
          refine G.iload_n hX 2 rfl dX4_read_66 ?_
          refine G.iconst hX (v := 0) (by decide) dX4_read_67 ?_
          refine G.s0i hX (As := [.int (nI t), .int 0]) (st := [.ref (o 1)]) (c_X4_spotOf _ E (t := t) (w := 0) ) gX4_read_X4_spotOf cp_X4_spotOf (by decide) rfl rfl (Nat.le_of_ble_eq_true rfl) dX4_read_68 ?_
          refine G.ie (y := nI (2 + 10 * t)) rfl ?_
          refine G.iload hX 5 rfl dX4_read_71 ?_
          refine G.bipush hX (v := 6) (by decide) dX4_read_73 ?_
          refine G.idiv hX (by decide) dX4_read_75 ?_
          refine G.ie (y := nI (p / 6)) (by exact pk_div (a := p) (d := 6) (by omega) (by omega) (by omega)) ?_
          refine G.iast hX (j := 2 + 10 * t) (ws' := [(o 0, moO o ik be so tp fr tq vl wr), (o 1, arI E 122 (upd s (2 + 10 * t) (nI (p / 6)))), (o 4, arI E 122 s), (o 6, arI E 12 ((it (ms_rdS nu (40 * sh) z s t u) p (0, ge)).2)), (o 8, arI E 4 bo), (o 9, arI E 4 szz), (o 10, arJ E 160 nu)]) 1 rfl (by omega) (by omega) rfl rfl dX4_read_76 ?_
          refine G.aload_n hX 0 rfl dX4_read_77 ?_
          refine G.get hX inc_X4_read_4 0 rfl rfl 0 (by decide) (by decide +kernel) rfl dX4_read_78 ?_
          refine G.iload_n hX 3 rfl dX4_read_81 ?_
          refine G.iconst hX (v := 0) (by decide) dX4_read_82 ?_
          refine G.s0i hX (As := [.int (nI u), .int 0]) (st := [.ref (o 1)]) (c_X4_spotOf _ E (t := u) (w := 0) ) gX4_read_X4_spotOf cp_X4_spotOf (by decide) rfl rfl (Nat.le_of_ble_eq_true rfl) dX4_read_83 ?_
          refine G.ie (y := nI (2 + 10 * u)) rfl ?_
          refine G.iload hX 5 rfl dX4_read_86 ?_
          refine G.bipush hX (v := 6) (by decide) dX4_read_88 ?_
          refine G.irem hX (by decide) dX4_read_90 ?_
          refine G.ie (y := nI (p % 6)) (by exact pk_rem (a := p) (d := 6) (by omega) (by omega) (by omega)) ?_
          refine G.iast hX (j := 2 + 10 * u) (ws' := [(o 0, moO o ik be so tp fr tq vl wr), (o 1, arI E 122 (upd (upd s (2 + 10 * t) (nI (p / 6))) (2 + 10 * u) (nI (p % 6)))), (o 4, arI E 122 s), (o 6, arI E 12 ((it (ms_rdS nu (40 * sh) z s t u) p (0, ge)).2)), (o 8, arI E 4 bo), (o 9, arI E 4 szz), (o 10, arJ E 160 nu)]) 1 rfl (by omega) (by omega) rfl rfl dX4_read_91 ?_
          refine G.we (ws' := [(o 0, moO o ik be so tp fr tq vl wr), (o 1, arI E 122 (ms_rdZ s t u p)), (o 4, arI E 122 s), (o 6, arI E 12 ((it (ms_rdS nu (40 * sh) z s t u) p (0, ge)).2)), (o 8, arI E 4 bo), (o 9, arI E 4 szz), (o 10, arJ E 160 nu)]) (by rfl) ?_
          refine G.aload_n hX 0 rfl dX4_read_92 ?_
          refine G.iload hX 4 rfl dX4_read_93 ?_
          refine G.aload_n hX 0 rfl dX4_read_95 ?_
          refine G.iload_n hX 1 rfl dX4_read_96 ?_
          refine G.iload_n hX 2 rfl dX4_read_97 ?_
          refine G.vi hX (As := [.int (nI sh), .int (nI t)]) (st := [.int (nI ((it (ms_rdS nu (40 * sh) z s t u) p (0, ge)).1)), .ref (o 0)]) (wr := [(o 4, arI E 122 s), (o 8, arI E 4 bo)]) (wf := [(o 0, moO o ik be so tp fr tq vl wr), (o 1, arI E 122 (ms_ys (ms_rd nu (40 * sh) z (ms_rdZ s t u p) t) (ms_rdZ s t u p))), (o 4, arI E 122 s), (o 6, arI E 12 (ms_gs (ms_rd nu (40 * sh) z (ms_rdZ s t u p) t) (ms_rdZ s t u p) ((it (ms_rdS nu (40 * sh) z s t u) p (0, ge)).2))), (o 8, arI E 4 bo), (o 9, arI E 4 szz), (o 10, arJ E 160 nu)]) (q0 := 0) (ci := 4) rfl rfl (c_X4_isBook _ E (sh := sh) (t := t) (z := z) (o := o) (ik := ik) (be := be) (so := so) (tp := tp) (fr := fr) (tq := tq) (vl := vl) (wr := wr) (s := ms_rdZ s t u p) (ge := (it (ms_rdS nu (40 * sh) z s t u) p (0, ge)).2) (szz := szz) (nu := nu) (h1 := by omega) (h2 := by omega) (h3 := h6) (h4 := by omega)) gX4_read_X4_isBook cp_X4_isBook (by decide) [0, 1, 3, 5, 6] [2, 4] [2, 3, 0, 4, 1, 5, 6] ⟨rfl, rfl, by decide, rfl⟩ rfl rfl (Nat.le_of_ble_eq_true rfl) dX4_read_98 ?_
          have J109 : G E X 7 109 [(0, .ref (o 0)), (1, .int (nI sh)), (2, .int (nI t)), (3, .int (nI u)), (6, .int (nI p))] [.int (nI (if z ≤ ms_rd nu (40 * sh) z (ms_rdZ s t u p) t then 1 else 0)), .int (nI ((it (ms_rdS nu (40 * sh) z s t u) p (0, ge)).1)), .ref (o 0)] [(o 0, moO o ik be so tp fr tq vl wr), (o 1, arI E 122 (ms_ys (ms_rd nu (40 * sh) z (ms_rdZ s t u p) t) (ms_rdZ s t u p))), (o 4, arI E 122 s), (o 6, arI E 12 (ms_gs (ms_rd nu (40 * sh) z (ms_rdZ s t u p) t) (ms_rdZ s t u p) ((it (ms_rdS nu (40 * sh) z s t u) p (0, ge)).2))), (o 8, arI E 4 bo), (o 9, arI E 4 szz), (o 10, arJ E 160 nu)] := by
            refine G.iadd hX dX4_read_109 ?_
            refine G.ie (y := nI ((it (ms_rdS nu (40 * sh) z s t u) (p + 1) (0, ge)).1)) (by exact nI_add _ _) ?_
            refine G.vi hX (As := [.int (nI ((it (ms_rdS nu (40 * sh) z s t u) (p + 1) (0, ge)).1))]) (st := []) (wr := [(o 6, arI E 12 (ms_gs (ms_rd nu (40 * sh) z (ms_rdZ s t u p) t) (ms_rdZ s t u p) ((it (ms_rdS nu (40 * sh) z s t u) p (0, ge)).2))), (o 8, arI E 4 bo), (o 9, arI E 4 szz), (o 10, arJ E 160 nu)]) (wf := [(o 0, moO o ik be so tp fr tq vl wr), (o 1, arI E 122 s), (o 4, arI E 122 s), (o 6, arI E 12 (ms_gs (ms_rd nu (40 * sh) z (ms_rdZ s t u p) t) (ms_rdZ s t u p) ((it (ms_rdS nu (40 * sh) z s t u) p (0, ge)).2))), (o 8, arI E 4 bo), (o 9, arI E 4 szz), (o 10, arJ E 160 nu)]) (q0 := 0) (ci := 4) rfl rfl (c_X4_takesBack _ E (v := nI ((it (ms_rdS nu (40 * sh) z s t u) (p + 1) (0, ge)).1)) (o := o) (ik := ik) (be := be) (so := so) (tp := tp) (fr := fr) (tq := tq) (vl := vl) (wr := wr) (s := ms_ys (ms_rd nu (40 * sh) z (ms_rdZ s t u p) t) (ms_rdZ s t u p)) (asd := s) ) gX4_read_X4_takesBack cp_X4_takesBack (by decide) [0, 1, 2] [3, 4, 5, 6] [4, 5, 6, 0, 1, 2, 3] ⟨rfl, rfl, by decide, rfl⟩ rfl rfl (Nat.le_of_ble_eq_true rfl) dX4_read_110 ?_
            refine G.istore hX (lv' := [(5, .int ((nI ((it (ms_rdS nu (40 * sh) z s t u) (p + 1) (0, ge)).1)))), (0, .ref (o 0)), (1, .int (nI sh)), (2, .int (nI t)), (3, .int (nI u)), (6, .int (nI p))]) (by decide) rfl dX4_read_113 ?_
            refine G.iinc hX (n := 1) (lv' := [(6, .int (nI (p + 1))), (5, .int ((nI ((it (ms_rdS nu (40 * sh) z s t u) (p + 1) (0, ge)).1)))), (0, .ref (o 0)), (1, .int (nI sh)), (2, .int (nI t)), (3, .int (nI u))]) 5 rfl (inc_nI p 1 rfl) (by decide) rfl dX4_read_115 ?_
            refine G.goto hX (tgt := 55) (by decide) dX4_read_118 ?_
            refine G.lvp (lv' := [(0, .ref (o 0)), (1, .int (nI sh)), (2, .int (nI t)), (3, .int (nI u)), (5, .int ((nI ((it (ms_rdS nu (40 * sh) z s t u) (p + 1) (0, ge)).1)))), (6, .int (nI (p + 1)))]) [2, 3, 4, 5, 1, 0] rfl ?_
            refine G.lve (lv' := [(0, .ref (o 0)), (1, .int (nI sh)), (2, .int (nI t)), (3, .int (nI u)), (5, .int (nI ((it (ms_rdS nu (40 * sh) z s t u) (p + 1) (0, ge)).1))), (6, .int (nI ((p + 1))))]) (by rfl) ?_
            refine G.we (ws' := [(o 0, moO o ik be so tp fr tq vl wr), (o 1, arI E 122 s), (o 4, arI E 122 s), (o 6, arI E 12 ((it (ms_rdS nu (40 * sh) z s t u) (p + 1) (0, ge)).2)), (o 8, arI E 4 bo), (o 9, arI E 4 szz), (o 10, arJ E 160 nu)]) (by rfl) ?_
            exact ih55 (p + 1) (by omega) (by omega)
          refine G.b_eq hX (tgt := 108) (by decide) dX4_read_101 (fun c101 => ?_) (fun c101 => ?_)
          · refine G.iconst hX (v := 0) (by decide) dX4_read_108 ?_
            refine G.lvp (lv' := [(0, .ref (o 0)), (1, .int (nI sh)), (2, .int (nI t)), (3, .int (nI u)), (6, .int (nI p))]) [0, 1, 2, 3, 5] rfl ?_
            refine G.ve (y := .int (nI (if z ≤ ms_rd nu (40 * sh) z (ms_rdZ s t u p) t then 1 else 0))) (by first | (have e1 := of_decide_eq_true c101; rw [if_pos e1]; rfl) | (have e1 := of_decide_eq_false c101; rw [if_neg e1]; rfl)) ?_
            exact J109
          · refine G.iconst hX (v := 1) (by decide) dX4_read_104 ?_
            refine G.goto hX (tgt := 109) (by decide) dX4_read_105 ?_
            refine G.lvp (lv' := [(0, .ref (o 0)), (1, .int (nI sh)), (2, .int (nI t)), (3, .int (nI u)), (6, .int (nI p))]) [0, 1, 2, 3, 5] rfl ?_
            refine G.ve (y := .int (nI (if z ≤ ms_rd nu (40 * sh) z (ms_rdZ s t u p) t then 1 else 0))) (by first | (have e1 := of_decide_eq_true c101; rw [if_pos e1]; rfl) | (have e1 := of_decide_eq_false c101; rw [if_neg e1]; rfl)) ?_
            exact J109
    refine G.lvp (lv' := [(0, .ref (o 0)), (1, .int (nI sh)), (2, .int (nI t)), (3, .int (nI u)), (5, .int 0), (6, .int 0)]) [3, 4, 5, 6, 1, 0] rfl ?_
    refine G.lve (lv' := [(0, .ref (o 0)), (1, .int (nI sh)), (2, .int (nI t)), (3, .int (nI u)), (5, .int (nI ((it (ms_rdS nu (40 * sh) z s t u) 0 (0, ge)).1))), (6, .int (nI 0))]) (by rfl) ?_
    refine G.we (ws' := [(o 0, moO o ik be so tp fr tq vl wr), (o 1, arI E 122 s), (o 4, arI E 122 s), (o 6, arI E 12 ((it (ms_rdS nu (40 * sh) z s t u) 0 (0, ge)).2)), (o 8, arI E 4 bo), (o 9, arI E 4 szz), (o 10, arJ E 160 nu)]) (by rfl) ?_
    exact L55 37 0 (by omega) (by omega)
  · exact absurd c35 (by omega)
abbrev rmX4_image : Room := { frames := 0, cells := 0, slots := 0, locals := 0 }
theorem cp_X4_image : CP yX4_image RX4 wsX4_image 2 0 rmX4_image := ⟨⟨_, _, _, rfl⟩, rfl, rfl, by decide +kernel⟩
theorem inc_X4_image_4 : ∀ w ∈ u_ws RX4 TX4 19, w ∈ wsX4_image := by decide +kernel
set_option maxHeartbeats 4000000 in
set_option maxRecDepth 100000 in
theorem c_X4_image (l : Launch) (E : EV) (o : Nat → Nat) (ik : Int32) (be : Int32) (so : Int32) (tp : Int32) (fr : Int32) (tq : Int32) (vl : Int32) (wr : Int32) (s : Nat → Int32) (ke : Nat → Int32)  : CI l yX4_image wsX4_image rmX4_image E [.ref (o 0)] [(o 0, moO o ik be so tp fr tq vl wr), (o 1, arI E 122 s), (o 2, arI E 122 ke)] [(o 0, moO o 1 be so tp fr tq vl wr), (o 1, arI E 122 s), (o 2, arI E 122 s)] 1 := by
  refine CI.of (own := RX4) (cc := cX4_image) (nL := 2) (rt := (some .int)) (by decide) rfl rfl (Nat.le_of_ble_eq_true rfl) (fun X hX hQ => ?_)
  show G E X 2 0 [(0, .ref (o 0))] [] [(o 0, moO o ik be so tp fr tq vl wr), (o 1, arI E 122 s), (o 2, arI E 122 ke)]
  refine G.iconst hX (v := 0) (by decide) dX4_image_0 ?_
  refine G.istore_n hX (lv' := [(1, .int 0), (0, .ref (o 0))]) rfl (by decide) rfl dX4_image_1 ?_
  have L2 : ∀ (n : Nat) (k : Nat), k ≤ 122 → 123 ≤ k + n → G E X 2 2 [(0, .ref (o 0)), (1, .int (nI k))] [] [(o 0, moO o ik be so tp fr tq vl wr), (o 1, arI E 122 s), (o 2, arI E 122 (cpN k s ke))] := by
    intro n
    induction n with
    | zero => intro k hl2_0 hl2_1; exact absurd hl2_1 (by omega)
    | succ n ih2 =>
      intro k hl2_0 hl2_1
      refine G.iload_n hX 1 rfl dX4_image_2 ?_
      refine G.bipush hX (v := 122) (by decide) dX4_image_3 ?_
      refine G.n_ge hX (a := k) (b := 122) (tgt := 26) (by omega) (by omega) (by decide) dX4_image_5 (fun c5 => ?_) (fun c5 => ?_)
      · obtain rfl : k = 122 := by omega
        refine G.ext (g := s) 2 rfl (fun j hj => cpN_in hj) rfl ?_
        refine G.aload_n hX 0 rfl dX4_image_26 ?_
        refine G.iconst hX (v := 1) (by decide) dX4_image_27 ?_
        refine G.put hX (ws' := [(o 0, moO o 1 be so tp fr tq vl wr), (o 1, arI E 122 s), (o 2, arI E 122 s)]) inc_X4_image_4 tyX4 tyX4_ok nmX4 0 rfl rfl 5 (by decide) (by decide +kernel) rfl (tyX4_ok 5 (by decide)) rfl rfl (Nat.le_of_ble_eq_true rfl) rfl rfl dX4_image_28 ?_
        refine G.iconst hX (v := 1) (by decide) dX4_image_31 ?_
        exact G.iret hX hQ dX4_image_32 (by rfl) (by rfl)
      · refine G.aload_n hX 0 rfl dX4_image_8 ?_
        refine G.get hX inc_X4_image_4 0 rfl rfl 1 (by decide) (by decide +kernel) rfl dX4_image_9 ?_
        refine G.iload_n hX 1 rfl dX4_image_12 ?_
        refine G.aload_n hX 0 rfl dX4_image_13 ?_
        refine G.get hX inc_X4_image_4 0 rfl rfl 0 (by decide) (by decide +kernel) rfl dX4_image_14 ?_
        refine G.iload_n hX 1 rfl dX4_image_17 ?_
        refine G.iald hX (j := k) 1 rfl (by omega) (by omega) dX4_image_18 ?_
        refine G.iast hX (j := k) (ws' := [(o 0, moO o ik be so tp fr tq vl wr), (o 1, arI E 122 s), (o 2, arI E 122 (upd (cpN k s ke) k (s k)))]) 2 rfl (by omega) (by omega) rfl rfl dX4_image_19 ?_
        refine G.iinc hX (n := 1) (lv' := [(1, .int (nI (k + 1))), (0, .ref (o 0))]) 1 rfl (inc_nI k 1 rfl) (by decide) rfl dX4_image_20 ?_
        refine G.goto hX (tgt := 2) (by decide) dX4_image_23 ?_
        refine G.lvp (lv' := [(0, .ref (o 0)), (1, .int (nI (k + 1)))]) [1, 0] rfl ?_
        refine G.lve (lv' := [(0, .ref (o 0)), (1, .int (nI ((k + 1))))]) (by rfl) ?_
        refine G.we (ws' := [(o 0, moO o ik be so tp fr tq vl wr), (o 1, arI E 122 s), (o 2, arI E 122 (cpN (k + 1) s ke))]) (by rw [cpN_s]) ?_
        exact ih2 (k + 1) (by omega) (by omega)
  refine G.lvp (lv' := [(0, .ref (o 0)), (1, .int 0)]) [1, 0] rfl ?_
  refine G.lve (lv' := [(0, .ref (o 0)), (1, .int (nI 0))]) (by rfl) ?_
  refine G.we (ws' := [(o 0, moO o ik be so tp fr tq vl wr), (o 1, arI E 122 s), (o 2, arI E 122 (cpN 0 s ke))]) (by rw [cpN_0]) ?_
  exact L2 123 0 (by omega) (by omega)
abbrev rmX4_undo : Room := { frames := 1, cells := 0, slots := 0, locals := 21 }
theorem cp_X4_undo : CP yX4_undo RX4 wsX4_undo 2 0 rmX4_undo := ⟨⟨_, _, _, rfl⟩, rfl, rfl, by decide +kernel⟩
theorem inc_X4_undo_4 : ∀ w ∈ u_ws RX4 TX4 19, w ∈ wsX4_undo := by decide +kernel
set_option maxHeartbeats 4000000 in
set_option maxRecDepth 100000 in
theorem c_X4_undono (l : Launch) (E : EV) (o : Nat → Nat) (be : Int32) (so : Int32) (tp : Int32) (fr : Int32) (tq : Int32) (vl : Int32) (wr : Int32) (stt : Nat → Int32)  : CI l yX4_undo wsX4_undo rmX4_undo E [.ref (o 0)] [(o 0, moO o 0 be so tp fr tq vl wr), (o 5, arI E 7 stt)] [(o 0, moO o 0 be so tp fr tq vl wr), (o 5, arI E 7 (upd stt 3 (stt 3 + 1)))] ((-1000000004)) := by
  refine CI.of (own := RX4) (cc := cX4_undo) (nL := 2) (rt := (some .int)) (by decide) rfl rfl (Nat.le_of_ble_eq_true rfl) (fun X hX hQ => ?_)
  show G E X 2 0 [(0, .ref (o 0))] [] [(o 0, moO o 0 be so tp fr tq vl wr), (o 5, arI E 7 stt)]
  refine G.aload_n hX 0 rfl dX4_undo_0 ?_
  refine G.get hX inc_X4_undo_4 0 rfl rfl 5 (by decide) (by decide +kernel) rfl dX4_undo_1 ?_
  refine G.if_ne hX (tgt := 14) (by decide) dX4_undo_4 (fun c4 => absurd c4 (by decide)) (fun _ => ?_)
  refine G.aload_n hX 0 rfl dX4_undo_7 ?_
  refine G.ldc hX (v := -1000000004) (by decide +kernel) dX4_undo_8 ?_
  refine G.vi hX (As := [.int ((-1000000004))]) (st := []) (wr := []) (wf := [(o 0, moO o 0 be so tp fr tq vl wr), (o 5, arI E 7 (upd stt 3 (stt 3 + 1)))]) (q0 := 0) (ci := 4) rfl rfl (c_X4_finds3 _ E (o := o) (ik := 0) (be := be) (so := so) (tp := tp) (fr := fr) (tq := tq) (vl := vl) (wr := wr) (stt := stt) ) gX4_undo_X4_finds cp_X4_finds (by decide) [0, 1] [] [0, 1] ⟨rfl, rfl, by decide, rfl⟩ rfl rfl (Nat.le_of_ble_eq_true rfl) dX4_undo_10 ?_
  exact G.iret hX hQ dX4_undo_13 (by rfl) (by rfl)
set_option maxHeartbeats 4000000 in
set_option maxRecDepth 100000 in
theorem c_X4_undook (l : Launch) (E : EV) (o : Nat → Nat) (be : Int32) (so : Int32) (tp : Int32) (fr : Int32) (tq : Int32) (vl : Int32) (wr : Int32) (s : Nat → Int32) (ke : Nat → Int32)  : CI l yX4_undo wsX4_undo rmX4_undo E [.ref (o 0)] [(o 0, moO o 1 be so tp fr tq vl wr), (o 1, arI E 122 s), (o 2, arI E 122 ke)] [(o 0, moO o 1 be so tp fr tq vl wr), (o 1, arI E 122 ke), (o 2, arI E 122 ke)] (ke 0) := by
  refine CI.of (own := RX4) (cc := cX4_undo) (nL := 2) (rt := (some .int)) (by decide) rfl rfl (Nat.le_of_ble_eq_true rfl) (fun X hX hQ => ?_)
  show G E X 2 0 [(0, .ref (o 0))] [] [(o 0, moO o 1 be so tp fr tq vl wr), (o 1, arI E 122 s), (o 2, arI E 122 ke)]
  refine G.aload_n hX 0 rfl dX4_undo_0 ?_
  refine G.get hX inc_X4_undo_4 0 rfl rfl 5 (by decide) (by decide +kernel) rfl dX4_undo_1 ?_
  refine G.if_ne hX (tgt := 14) (by decide) dX4_undo_4 (fun _ => ?_) (fun c4 => absurd c4 (by decide))
  refine G.iconst hX (v := 0) (by decide) dX4_undo_14 ?_
  refine G.istore_n hX (lv' := [(1, .int 0), (0, .ref (o 0))]) rfl (by decide) rfl dX4_undo_15 ?_
  have L16 : ∀ (n : Nat) (k : Nat), k ≤ 122 → 123 ≤ k + n → G E X 2 16 [(0, .ref (o 0)), (1, .int (nI k))] [] [(o 0, moO o 1 be so tp fr tq vl wr), (o 1, arI E 122 (cpN k ke s)), (o 2, arI E 122 ke)] := by
    intro n
    induction n with
    | zero => intro k hl16_0 hl16_1; exact absurd hl16_1 (by omega)
    | succ n ih16 =>
      intro k hl16_0 hl16_1
      refine G.iload_n hX 1 rfl dX4_undo_16 ?_
      refine G.bipush hX (v := 122) (by decide) dX4_undo_17 ?_
      refine G.n_ge hX (a := k) (b := 122) (tgt := 40) (by omega) (by omega) (by decide) dX4_undo_19 (fun c19 => ?_) (fun c19 => ?_)
      · obtain rfl : k = 122 := by omega
        refine G.ext (g := ke) 1 rfl (fun j hj => cpN_in hj) rfl ?_
        refine G.aload_n hX 0 rfl dX4_undo_40 ?_
        refine G.get hX inc_X4_undo_4 0 rfl rfl 0 (by decide) (by decide +kernel) rfl dX4_undo_41 ?_
        refine G.iconst hX (v := 0) (by decide) dX4_undo_44 ?_
        refine G.iald hX (j := 0) 1 rfl (by omega) (by omega) dX4_undo_45 ?_
        exact G.iret hX hQ dX4_undo_46 (by rfl) (by rfl)
      · refine G.aload_n hX 0 rfl dX4_undo_22 ?_
        refine G.get hX inc_X4_undo_4 0 rfl rfl 0 (by decide) (by decide +kernel) rfl dX4_undo_23 ?_
        refine G.iload_n hX 1 rfl dX4_undo_26 ?_
        refine G.aload_n hX 0 rfl dX4_undo_27 ?_
        refine G.get hX inc_X4_undo_4 0 rfl rfl 1 (by decide) (by decide +kernel) rfl dX4_undo_28 ?_
        refine G.iload_n hX 1 rfl dX4_undo_31 ?_
        refine G.iald hX (j := k) 2 rfl (by omega) (by omega) dX4_undo_32 ?_
        refine G.iast hX (j := k) (ws' := [(o 0, moO o 1 be so tp fr tq vl wr), (o 1, arI E 122 (upd (cpN k ke s) k (ke k))), (o 2, arI E 122 ke)]) 1 rfl (by omega) (by omega) rfl rfl dX4_undo_33 ?_
        refine G.iinc hX (n := 1) (lv' := [(1, .int (nI (k + 1))), (0, .ref (o 0))]) 1 rfl (inc_nI k 1 rfl) (by decide) rfl dX4_undo_34 ?_
        refine G.goto hX (tgt := 16) (by decide) dX4_undo_37 ?_
        refine G.lvp (lv' := [(0, .ref (o 0)), (1, .int (nI (k + 1)))]) [1, 0] rfl ?_
        refine G.lve (lv' := [(0, .ref (o 0)), (1, .int (nI ((k + 1))))]) (by rfl) ?_
        refine G.we (ws' := [(o 0, moO o 1 be so tp fr tq vl wr), (o 1, arI E 122 (cpN (k + 1) ke s)), (o 2, arI E 122 ke)]) (by rw [cpN_s]) ?_
        exact ih16 (k + 1) (by omega) (by omega)
  refine G.lvp (lv' := [(0, .ref (o 0)), (1, .int 0)]) [1, 0] rfl ?_
  refine G.lve (lv' := [(0, .ref (o 0)), (1, .int (nI 0))]) (by rfl) ?_
  refine G.we (ws' := [(o 0, moO o 1 be so tp fr tq vl wr), (o 1, arI E 122 (cpN 0 ke s)), (o 2, arI E 122 ke)]) (by rw [cpN_0]) ?_
  exact L16 123 0 (by omega) (by omega)
abbrev rmX4_tear : Room := { frames := 0, cells := 0, slots := 0, locals := 0 }
theorem cp_X4_tear : CP yX4_tear RX4 wsX4_tear 2 0 rmX4_tear := ⟨⟨_, _, _, rfl⟩, rfl, rfl, by decide +kernel⟩
theorem inc_X4_tear_4 : ∀ w ∈ u_ws RX4 TX4 19, w ∈ wsX4_tear := by decide +kernel
set_option maxHeartbeats 4000000 in
set_option maxRecDepth 100000 in
theorem c_X4_tear0 (l : Launch) (E : EV) (o : Nat → Nat) (be : Int32) (so : Int32) (tp : Int32) (fr : Int32) (tq : Int32) (vl : Int32) (wr : Int32)  : CI l yX4_tear wsX4_tear rmX4_tear E [.ref (o 0)] [(o 0, moO o 0 be so tp fr tq vl wr)] [(o 0, moO o 0 be so tp fr tq vl wr)] 0 := by
  refine CI.of (own := RX4) (cc := cX4_tear) (nL := 2) (rt := (some .int)) (by decide) rfl rfl (Nat.le_of_ble_eq_true rfl) (fun X hX hQ => ?_)
  show G E X 2 0 [(0, .ref (o 0))] [] [(o 0, moO o 0 be so tp fr tq vl wr)]
  refine G.aload_n hX 0 rfl dX4_tear_0 ?_
  refine G.get hX inc_X4_tear_4 0 rfl rfl 5 (by decide) (by decide +kernel) rfl dX4_tear_1 ?_
  refine G.if_eq hX (tgt := 11) (by decide) dX4_tear_4 (fun _ => ?_) (fun c4 => absurd c4 (by decide))
  refine G.iconst hX (v := 0) (by decide) dX4_tear_11 ?_
  refine G.istore_n hX (lv' := [(1, .int 0), (0, .ref (o 0))]) rfl (by decide) rfl dX4_tear_12 ?_
  refine G.aload_n hX 1 rfl dX4_tear_13 ?_
  refine G.iconst hX (v := 0) (by decide) dX4_tear_14 ?_
  refine G.put hX (ws' := [(o 0, moO o 0 be so tp fr tq vl wr)]) inc_X4_tear_4 tyX4 tyX4_ok nmX4 0 rfl rfl 5 (by decide) (by decide +kernel) rfl (tyX4_ok 5 (by decide)) rfl rfl (Nat.le_of_ble_eq_true rfl) rfl rfl dX4_tear_15 ?_
  refine G.iload_n hX 0 rfl dX4_tear_18 ?_
  exact G.iret hX hQ dX4_tear_19 (by rfl) (by rfl)
set_option maxHeartbeats 4000000 in
set_option maxRecDepth 100000 in
theorem c_X4_tear1 (l : Launch) (E : EV) (o : Nat → Nat) (be : Int32) (so : Int32) (tp : Int32) (fr : Int32) (tq : Int32) (vl : Int32) (wr : Int32)  : CI l yX4_tear wsX4_tear rmX4_tear E [.ref (o 0)] [(o 0, moO o 1 be so tp fr tq vl wr)] [(o 0, moO o 0 be so tp fr tq vl wr)] 1 := by
  refine CI.of (own := RX4) (cc := cX4_tear) (nL := 2) (rt := (some .int)) (by decide) rfl rfl (Nat.le_of_ble_eq_true rfl) (fun X hX hQ => ?_)
  show G E X 2 0 [(0, .ref (o 0))] [] [(o 0, moO o 1 be so tp fr tq vl wr)]
  refine G.aload_n hX 0 rfl dX4_tear_0 ?_
  refine G.get hX inc_X4_tear_4 0 rfl rfl 5 (by decide) (by decide +kernel) rfl dX4_tear_1 ?_
  refine G.if_eq hX (tgt := 11) (by decide) dX4_tear_4 (fun c4 => absurd c4 (by decide)) (fun _ => ?_)
  refine G.iconst hX (v := 1) (by decide) dX4_tear_7 ?_
  refine G.goto hX (tgt := 12) (by decide) dX4_tear_8 ?_
  refine G.istore_n hX (lv' := [(1, .int 1), (0, .ref (o 0))]) rfl (by decide) rfl dX4_tear_12 ?_
  refine G.aload_n hX 1 rfl dX4_tear_13 ?_
  refine G.iconst hX (v := 0) (by decide) dX4_tear_14 ?_
  refine G.put hX (ws' := [(o 0, moO o 0 be so tp fr tq vl wr)]) inc_X4_tear_4 tyX4 tyX4_ok nmX4 0 rfl rfl 5 (by decide) (by decide +kernel) rfl (tyX4_ok 5 (by decide)) rfl rfl (Nat.le_of_ble_eq_true rfl) rfl rfl dX4_tear_15 ?_
  refine G.iload_n hX 0 rfl dX4_tear_18 ?_
  exact G.iret hX hQ dX4_tear_19 (by rfl) (by rfl)
abbrev rmX4_noLimes : Room := { frames := 2, cells := 0, slots := 0, locals := 43 }
theorem cp_X4_noLimes : CP yX4_noLimes RX4 wsX4_noLimes 3 0 rmX4_noLimes := ⟨⟨_, _, _, rfl⟩, rfl, rfl, by decide +kernel⟩
set_option maxHeartbeats 4000000 in
set_option maxRecDepth 100000 in
theorem c_X4_noLimes (l : Launch) (E : EV) (o : Nat → Nat) (ik : Int32) (be : Int32) (so : Int32) (tp : Int32) (fr : Int32) (tq : Int32) (vl : Int32) (wr : Int32) (s : Nat → Int32)  : CI l yX4_noLimes wsX4_noLimes rmX4_noLimes E [.ref (o 0)] [(o 0, moO o ik be so tp fr tq vl wr), (o 1, arI E 122 s)] [(o 0, moO o ik be so tp fr tq vl wr), (o 1, arI E 122 s)] (nI (it (ms_nlS s) 12 0)) := by
  refine CI.of (own := RX4) (cc := cX4_noLimes) (nL := 3) (rt := (some .int)) (by decide) rfl rfl (Nat.le_of_ble_eq_true rfl) (fun X hX hQ => ?_)
  show G E X 3 0 [(0, .ref (o 0))] [] [(o 0, moO o ik be so tp fr tq vl wr), (o 1, arI E 122 s)]
  refine G.iconst hX (v := 0) (by decide) dX4_noLimes_0 ?_
  refine G.istore_n hX (lv' := [(1, .int 0), (0, .ref (o 0))]) rfl (by decide) rfl dX4_noLimes_1 ?_
  refine G.iconst hX (v := 0) (by decide) dX4_noLimes_2 ?_
  refine G.istore_n hX (lv' := [(2, .int 0), (1, .int 0), (0, .ref (o 0))]) rfl (by decide) rfl dX4_noLimes_3 ?_
  have L4 : ∀ (n : Nat) (t : Nat), t ≤ 12 → 13 ≤ t + n → G E X 3 4 [(0, .ref (o 0)), (1, .int (nI (it (ms_nlS s) t 0))), (2, .int (nI t))] [] [(o 0, moO o ik be so tp fr tq vl wr), (o 1, arI E 122 s)] := by
    intro n
    induction n with
    | zero => intro t hl4_0 hl4_1; exact absurd hl4_1 (by omega)
    | succ n ih4 =>
      intro t hl4_0 hl4_1
      refine G.iload_n hX 2 rfl dX4_noLimes_4 ?_
      refine G.bipush hX (v := 12) (by decide) dX4_noLimes_5 ?_
      refine G.n_ge hX (a := t) (b := 12) (tgt := 33) (by omega) (by omega) (by decide) dX4_noLimes_7 (fun c7 => ?_) (fun c7 => ?_)
      · refine G.iload_n hX 1 rfl dX4_noLimes_33 ?_
        exact G.iret hX hQ dX4_noLimes_34 (by obtain rfl : t = 12 := (by omega); rfl) (by rfl)
      · have J25 : G E X 3 25 [(0, .ref (o 0)), (2, .int (nI t))] [.int (nI (if s (2 + 10 * t) = 0 then 0 else 1)), .int (nI (it (ms_nlS s) t 0))] [(o 0, moO o ik be so tp fr tq vl wr), (o 1, arI E 122 s)] := by
          refine G.iadd hX dX4_noLimes_25 ?_
          refine G.ie (y := nI (it (ms_nlS s) (t + 1) 0)) (by exact nI_add _ _) ?_
          refine G.istore_n hX (lv' := [(1, .int (nI (it (ms_nlS s) (t + 1) 0))), (0, .ref (o 0)), (2, .int (nI t))]) rfl (by decide) rfl dX4_noLimes_26 ?_
          refine G.iinc hX (n := 1) (lv' := [(2, .int (nI (t + 1))), (1, .int (nI (it (ms_nlS s) (t + 1) 0))), (0, .ref (o 0))]) 2 rfl (inc_nI t 1 rfl) (by decide) rfl dX4_noLimes_27 ?_
          refine G.goto hX (tgt := 4) (by decide) dX4_noLimes_30 ?_
          refine G.lvp (lv' := [(0, .ref (o 0)), (1, .int (nI (it (ms_nlS s) (t + 1) 0))), (2, .int (nI (t + 1)))]) [2, 1, 0] rfl ?_
          refine G.lve (lv' := [(0, .ref (o 0)), (1, .int (nI (it (ms_nlS s) (t + 1) 0))), (2, .int (nI ((t + 1))))]) (by rfl) ?_
          exact ih4 (t + 1) (by omega) (by omega)
        refine G.iload_n hX 1 rfl dX4_noLimes_10 ?_
        refine G.aload_n hX 0 rfl dX4_noLimes_11 ?_
        refine G.iload_n hX 2 rfl dX4_noLimes_12 ?_
        refine G.iconst hX (v := 0) (by decide) dX4_noLimes_13 ?_
        refine G.vi hX (As := [.int (nI t), .int 0]) (st := [.int (nI (it (ms_nlS s) t 0))]) (wr := []) (wf := [(o 0, moO o ik be so tp fr tq vl wr), (o 1, arI E 122 s)]) (q0 := 0) (ci := 4) rfl rfl (c_X4_its _ E (t := t) (w := 0) (o := o) (ik := ik) (be := be) (so := so) (tp := tp) (fr := fr) (tq := tq) (vl := vl) (wr := wr) (s := s) (h1 := by omega)) gX4_noLimes_X4_its cp_X4_its (by decide) [0, 1] [] [0, 1] ⟨rfl, rfl, by decide, rfl⟩ rfl rfl (Nat.le_of_ble_eq_true rfl) dX4_noLimes_14 ?_
        refine G.ie (y := s (2 + 10 * t)) rfl ?_
        refine G.if_eq hX (tgt := 24) (by decide) dX4_noLimes_17 (fun c17 => ?_) (fun c17 => ?_)
        · refine G.iconst hX (v := 0) (by decide) dX4_noLimes_24 ?_
          refine G.lvp (lv' := [(0, .ref (o 0)), (2, .int (nI t))]) [0, 2] rfl ?_
          refine G.ve (y := .int (nI (if s (2 + 10 * t) = 0 then 0 else 1))) (by first | rfl | (simp only [c7, c17, ↓reduceIte, Bool.not_true, Bool.not_false, Bool.and_true, Bool.true_and, Bool.and_false, Bool.false_and, Bool.or_true, Bool.true_or, Bool.or_false, Bool.false_or, decide_true, decide_false, not_true_eq_false, not_false_eq_true, Bool.false_eq_true, Bool.true_eq_false]; done) | (simp only [c7, c17, ↓reduceIte, Bool.not_true, Bool.not_false, Bool.and_true, Bool.true_and, Bool.and_false, Bool.false_and, Bool.or_true, Bool.true_or, Bool.or_false, Bool.false_or, decide_true, decide_false, not_true_eq_false, not_false_eq_true, Bool.false_eq_true, Bool.true_eq_false]; rfl) | (simp [c7, c17]; done)) ?_
          exact J25
        · refine G.iconst hX (v := 1) (by decide) dX4_noLimes_20 ?_
          refine G.goto hX (tgt := 25) (by decide) dX4_noLimes_21 ?_
          refine G.lvp (lv' := [(0, .ref (o 0)), (2, .int (nI t))]) [0, 2] rfl ?_
          refine G.ve (y := .int (nI (if s (2 + 10 * t) = 0 then 0 else 1))) (by first | rfl | (simp only [c7, c17, ↓reduceIte, Bool.not_true, Bool.not_false, Bool.and_true, Bool.true_and, Bool.and_false, Bool.false_and, Bool.or_true, Bool.true_or, Bool.or_false, Bool.false_or, decide_true, decide_false, not_true_eq_false, not_false_eq_true, Bool.false_eq_true, Bool.true_eq_false]; done) | (simp only [c7, c17, ↓reduceIte, Bool.not_true, Bool.not_false, Bool.and_true, Bool.true_and, Bool.and_false, Bool.false_and, Bool.or_true, Bool.true_or, Bool.or_false, Bool.false_or, decide_true, decide_false, not_true_eq_false, not_false_eq_true, Bool.false_eq_true, Bool.true_eq_false]; rfl) | (simp [c7, c17]; done)) ?_
          exact J25
  refine G.lvp (lv' := [(0, .ref (o 0)), (1, .int 0), (2, .int 0)]) [2, 1, 0] rfl ?_
  refine G.lve (lv' := [(0, .ref (o 0)), (1, .int (nI (it (ms_nlS s) 0 0))), (2, .int (nI 0))]) (by rfl) ?_
  exact L4 13 0 (by omega) (by omega)
abbrev rmX4_knowingOnes : Room := { frames := 5, cells := 0, slots := 0, locals := 110 }
theorem cp_X4_knowingOnes : CP yX4_knowingOnes RX4 wsX4_knowingOnes 3 0 rmX4_knowingOnes := ⟨⟨_, _, _, rfl⟩, rfl, rfl, by decide +kernel⟩
set_option maxHeartbeats 4000000 in
set_option maxRecDepth 100000 in
theorem c_X4_knowingOnes (l : Launch) (E : EV) (o : Nat → Nat) (ik : Int32) (be : Int32) (so : Int32) (tp : Int32) (fr : Int32) (tq : Int32) (vl : Int32) (wr : Int32) (s : Nat → Int32)  : CI l yX4_knowingOnes wsX4_knowingOnes rmX4_knowingOnes E [.ref (o 0)] [(o 0, moO o ik be so tp fr tq vl wr), (o 1, arI E 122 s)] [(o 0, moO o ik be so tp fr tq vl wr), (o 1, arI E 122 s)] (nI (it (ms_koS s) 12 0)) := by
  refine CI.of (own := RX4) (cc := cX4_knowingOnes) (nL := 3) (rt := (some .int)) (by decide) rfl rfl (Nat.le_of_ble_eq_true rfl) (fun X hX hQ => ?_)
  show G E X 3 0 [(0, .ref (o 0))] [] [(o 0, moO o ik be so tp fr tq vl wr), (o 1, arI E 122 s)]
  refine G.iconst hX (v := 0) (by decide) dX4_knowingOnes_0 ?_
  refine G.istore_n hX (lv' := [(1, .int 0), (0, .ref (o 0))]) rfl (by decide) rfl dX4_knowingOnes_1 ?_
  refine G.iconst hX (v := 0) (by decide) dX4_knowingOnes_2 ?_
  refine G.istore_n hX (lv' := [(2, .int 0), (1, .int 0), (0, .ref (o 0))]) rfl (by decide) rfl dX4_knowingOnes_3 ?_
  have L4 : ∀ (n : Nat) (t : Nat), t ≤ 12 → 13 ≤ t + n → G E X 3 4 [(0, .ref (o 0)), (1, .int (nI (it (ms_koS s) t 0))), (2, .int (nI t))] [] [(o 0, moO o ik be so tp fr tq vl wr), (o 1, arI E 122 s)] := by
    intro n
    induction n with
    | zero => intro t hl4_0 hl4_1; exact absurd hl4_1 (by omega)
    | succ n ih4 =>
      intro t hl4_0 hl4_1
      refine G.iload_n hX 2 rfl dX4_knowingOnes_4 ?_
      refine G.bipush hX (v := 12) (by decide) dX4_knowingOnes_5 ?_
      refine G.n_ge hX (a := t) (b := 12) (tgt := 32) (by omega) (by omega) (by decide) dX4_knowingOnes_7 (fun c7 => ?_) (fun c7 => ?_)
      · refine G.iload_n hX 1 rfl dX4_knowingOnes_32 ?_
        exact G.iret hX hQ dX4_knowingOnes_33 (by obtain rfl : t = 12 := (by omega); rfl) (by rfl)
      · have J24 : G E X 3 24 [(0, .ref (o 0)), (2, .int (nI t))] [.int (nI (if ms_kb s t = 0 then 0 else 1)), .int (nI (it (ms_koS s) t 0))] [(o 0, moO o ik be so tp fr tq vl wr), (o 1, arI E 122 s)] := by
          refine G.iadd hX dX4_knowingOnes_24 ?_
          refine G.ie (y := nI (it (ms_koS s) (t + 1) 0)) (by exact nI_add _ _) ?_
          refine G.istore_n hX (lv' := [(1, .int (nI (it (ms_koS s) (t + 1) 0))), (0, .ref (o 0)), (2, .int (nI t))]) rfl (by decide) rfl dX4_knowingOnes_25 ?_
          refine G.iinc hX (n := 1) (lv' := [(2, .int (nI (t + 1))), (1, .int (nI (it (ms_koS s) (t + 1) 0))), (0, .ref (o 0))]) 2 rfl (inc_nI t 1 rfl) (by decide) rfl dX4_knowingOnes_26 ?_
          refine G.goto hX (tgt := 4) (by decide) dX4_knowingOnes_29 ?_
          refine G.lvp (lv' := [(0, .ref (o 0)), (1, .int (nI (it (ms_koS s) (t + 1) 0))), (2, .int (nI (t + 1)))]) [2, 1, 0] rfl ?_
          refine G.lve (lv' := [(0, .ref (o 0)), (1, .int (nI (it (ms_koS s) (t + 1) 0))), (2, .int (nI ((t + 1))))]) (by rfl) ?_
          exact ih4 (t + 1) (by omega) (by omega)
        refine G.iload_n hX 1 rfl dX4_knowingOnes_10 ?_
        refine G.aload_n hX 0 rfl dX4_knowingOnes_11 ?_
        refine G.iload_n hX 2 rfl dX4_knowingOnes_12 ?_
        refine G.vi hX (As := [.int (nI t)]) (st := [.int (nI (it (ms_koS s) t 0))]) (wr := []) (wf := [(o 0, moO o ik be so tp fr tq vl wr), (o 1, arI E 122 s)]) (q0 := 0) (ci := 4) rfl rfl (c_X4_knownBy _ E (t := t) (o := o) (ik := ik) (be := be) (so := so) (tp := tp) (fr := fr) (tq := tq) (vl := vl) (wr := wr) (s := s) (h1 := by omega)) gX4_knowingOnes_X4_knownBy cp_X4_knownBy (by decide) [0, 1] [] [0, 1] ⟨rfl, rfl, by decide, rfl⟩ rfl rfl (Nat.le_of_ble_eq_true rfl) dX4_knowingOnes_13 ?_
        refine G.z_eq hX (a := ms_kb s t) (tgt := 23) (Nat.lt_trans (kb_lt s t) (by omega)) (by decide) dX4_knowingOnes_16 (fun c16 => ?_) (fun c16 => ?_)
        · refine G.iconst hX (v := 0) (by decide) dX4_knowingOnes_23 ?_
          refine G.lvp (lv' := [(0, .ref (o 0)), (2, .int (nI t))]) [0, 2] rfl ?_
          refine G.ve (y := .int (nI (if ms_kb s t = 0 then 0 else 1))) (by first | rfl | (simp only [c7, c16, ↓reduceIte, Bool.not_true, Bool.not_false, Bool.and_true, Bool.true_and, Bool.and_false, Bool.false_and, Bool.or_true, Bool.true_or, Bool.or_false, Bool.false_or, decide_true, decide_false, not_true_eq_false, not_false_eq_true, Bool.false_eq_true, Bool.true_eq_false]; done) | (simp only [c7, c16, ↓reduceIte, Bool.not_true, Bool.not_false, Bool.and_true, Bool.true_and, Bool.and_false, Bool.false_and, Bool.or_true, Bool.true_or, Bool.or_false, Bool.false_or, decide_true, decide_false, not_true_eq_false, not_false_eq_true, Bool.false_eq_true, Bool.true_eq_false]; rfl) | (simp [c7, c16]; done)) ?_
          exact J24
        · refine G.iconst hX (v := 1) (by decide) dX4_knowingOnes_19 ?_
          refine G.goto hX (tgt := 24) (by decide) dX4_knowingOnes_20 ?_
          refine G.lvp (lv' := [(0, .ref (o 0)), (2, .int (nI t))]) [0, 2] rfl ?_
          refine G.ve (y := .int (nI (if ms_kb s t = 0 then 0 else 1))) (by first | rfl | (simp only [c7, c16, ↓reduceIte, Bool.not_true, Bool.not_false, Bool.and_true, Bool.true_and, Bool.and_false, Bool.false_and, Bool.or_true, Bool.true_or, Bool.or_false, Bool.false_or, decide_true, decide_false, not_true_eq_false, not_false_eq_true, Bool.false_eq_true, Bool.true_eq_false]; done) | (simp only [c7, c16, ↓reduceIte, Bool.not_true, Bool.not_false, Bool.and_true, Bool.true_and, Bool.and_false, Bool.false_and, Bool.or_true, Bool.true_or, Bool.or_false, Bool.false_or, decide_true, decide_false, not_true_eq_false, not_false_eq_true, Bool.false_eq_true, Bool.true_eq_false]; rfl) | (simp [c7, c16]; done)) ?_
          exact J24
  refine G.lvp (lv' := [(0, .ref (o 0)), (1, .int 0), (2, .int 0)]) [2, 1, 0] rfl ?_
  refine G.lve (lv' := [(0, .ref (o 0)), (1, .int (nI (it (ms_koS s) 0 0))), (2, .int (nI 0))]) (by rfl) ?_
  exact L4 13 0 (by omega) (by omega)
abbrev rmX4_count : Room := { frames := 6, cells := 0, slots := 0, locals := 132 }
theorem cp_X4_count : CP yX4_count RX4 wsX4_count 2 1 rmX4_count := ⟨⟨_, _, _, rfl⟩, rfl, rfl, by decide +kernel⟩
theorem inc_X4_count_4 : ∀ w ∈ u_ws RX4 TX4 19, w ∈ wsX4_count := by decide +kernel
set_option maxHeartbeats 4000000 in
set_option maxRecDepth 100000 in
theorem c_X4_count0 (l : Launch) (E : EV) (o : Nat → Nat) (ik : Int32) (be : Int32) (so : Int32) (tp : Int32) (fr : Int32) (tq : Int32) (vl : Int32) (wr : Int32) (s : Nat → Int32)  : CI l yX4_count wsX4_count rmX4_count E [.ref (o 0), .int 0] [(o 0, moO o ik be so tp fr tq vl wr), (o 1, arI E 122 s)] [(o 0, moO o ik be so tp fr tq vl wr), (o 1, arI E 122 s)] (nI (it (ms_nlS s) 12 0)) := by
  refine CI.of (own := RX4) (cc := cX4_count) (nL := 2) (rt := (some .int)) (by decide) rfl rfl (Nat.le_of_ble_eq_true rfl) (fun X hX hQ => ?_)
  show G E X 2 0 [(0, .ref (o 0)), (1, .int 0)] [] [(o 0, moO o ik be so tp fr tq vl wr), (o 1, arI E 122 s)]
  refine G.iload_n hX 1 rfl dX4_count_0 ?_
  refine G.tin hX (tgt := 32) dX4_count_1 (by decide) (by decide) rfl (by decide) ?_
  refine G.aload_n hX 0 rfl dX4_count_32 ?_
  refine G.vi hX (As := []) (st := []) (wr := []) (wf := [(o 0, moO o ik be so tp fr tq vl wr), (o 1, arI E 122 s)]) (q0 := 0) (ci := 4) rfl rfl (c_X4_noLimes _ E (o := o) (ik := ik) (be := be) (so := so) (tp := tp) (fr := fr) (tq := tq) (vl := vl) (wr := wr) (s := s) ) gX4_count_X4_noLimes cp_X4_noLimes (by decide) [0, 1] [] [0, 1] ⟨rfl, rfl, by decide, rfl⟩ rfl rfl (Nat.le_of_ble_eq_true rfl) dX4_count_33 ?_
  exact G.iret hX hQ dX4_count_36 (by rfl) (by rfl)
set_option maxHeartbeats 4000000 in
set_option maxRecDepth 100000 in
theorem c_X4_count1 (l : Launch) (E : EV) (o : Nat → Nat) (ik : Int32) (be : Int32) (so : Int32) (tp : Int32) (fr : Int32) (tq : Int32) (vl : Int32) (wr : Int32) (s : Nat → Int32)  : CI l yX4_count wsX4_count rmX4_count E [.ref (o 0), .int 1] [(o 0, moO o ik be so tp fr tq vl wr), (o 1, arI E 122 s)] [(o 0, moO o ik be so tp fr tq vl wr), (o 1, arI E 122 s)] tp := by
  refine CI.of (own := RX4) (cc := cX4_count) (nL := 2) (rt := (some .int)) (by decide) rfl rfl (Nat.le_of_ble_eq_true rfl) (fun X hX hQ => ?_)
  show G E X 2 0 [(0, .ref (o 0)), (1, .int 1)] [] [(o 0, moO o ik be so tp fr tq vl wr), (o 1, arI E 122 s)]
  refine G.iload_n hX 1 rfl dX4_count_0 ?_
  refine G.tin hX (tgt := 37) dX4_count_1 (by decide) (by decide) rfl (by decide) ?_
  refine G.aload_n hX 0 rfl dX4_count_37 ?_
  refine G.get hX inc_X4_count_4 0 rfl rfl 10 (by decide) (by decide +kernel) rfl dX4_count_38 ?_
  exact G.iret hX hQ dX4_count_41 (by rfl) (by rfl)
set_option maxHeartbeats 4000000 in
set_option maxRecDepth 100000 in
theorem c_X4_count2 (l : Launch) (E : EV) (p : Nat) (o : Nat → Nat) (ik : Int32) (be : Int32) (so : Int32) (tp : Int32) (fr : Int32) (tq : Int32) (vl : Int32) (wr : Int32) (s : Nat → Int32) (h1 : s 1 = nI p) (h2 : p < 256) : CI l yX4_count wsX4_count rmX4_count E [.ref (o 0), .int 2] [(o 0, moO o ik be so tp fr tq vl wr), (o 1, arI E 122 s)] [(o 0, moO o ik be so tp fr tq vl wr), (o 1, arI E 122 s)] (nI (pc8 p)) := by
  refine CI.of (own := RX4) (cc := cX4_count) (nL := 2) (rt := (some .int)) (by decide) rfl rfl (Nat.le_of_ble_eq_true rfl) (fun X hX hQ => ?_)
  show G E X 2 0 [(0, .ref (o 0)), (1, .int 2)] [] [(o 0, moO o ik be so tp fr tq vl wr), (o 1, arI E 122 s)]
  refine G.iload_n hX 1 rfl dX4_count_0 ?_
  refine G.tin hX (tgt := 42) dX4_count_1 (by decide) (by decide) rfl (by decide) ?_
  refine G.aload_n hX 0 rfl dX4_count_42 ?_
  refine G.get hX inc_X4_count_4 0 rfl rfl 0 (by decide) (by decide +kernel) rfl dX4_count_43 ?_
  refine G.iconst hX (v := 1) (by decide) dX4_count_46 ?_
  refine G.iald hX (j := 1) 1 rfl (by omega) (by omega) dX4_count_47 ?_
  refine G.ie (y := nI p) (by exact h1) ?_
  refine G.s0i hX (As := [.int (nI p)]) (st := []) (c_X4_ones _ E (k := p) (h1 := by omega)) gX4_count_X4_ones cp_X4_ones (by decide) rfl rfl (Nat.le_of_ble_eq_true rfl) dX4_count_48 ?_
  exact G.iret hX hQ dX4_count_51 (by rfl) (by rfl)
set_option maxHeartbeats 4000000 in
set_option maxRecDepth 100000 in
theorem c_X4_count3 (l : Launch) (E : EV) (o : Nat → Nat) (ik : Int32) (be : Int32) (so : Int32) (tp : Int32) (fr : Int32) (tq : Int32) (vl : Int32) (wr : Int32) (s : Nat → Int32)  : CI l yX4_count wsX4_count rmX4_count E [.ref (o 0), .int 3] [(o 0, moO o ik be so tp fr tq vl wr), (o 1, arI E 122 s)] [(o 0, moO o ik be so tp fr tq vl wr), (o 1, arI E 122 s)] (nI (it (ms_koS s) 12 0)) := by
  refine CI.of (own := RX4) (cc := cX4_count) (nL := 2) (rt := (some .int)) (by decide) rfl rfl (Nat.le_of_ble_eq_true rfl) (fun X hX hQ => ?_)
  show G E X 2 0 [(0, .ref (o 0)), (1, .int 3)] [] [(o 0, moO o ik be so tp fr tq vl wr), (o 1, arI E 122 s)]
  refine G.iload_n hX 1 rfl dX4_count_0 ?_
  refine G.tin hX (tgt := 52) dX4_count_1 (by decide) (by decide) rfl (by decide) ?_
  refine G.aload_n hX 0 rfl dX4_count_52 ?_
  refine G.vi hX (As := []) (st := []) (wr := []) (wf := [(o 0, moO o ik be so tp fr tq vl wr), (o 1, arI E 122 s)]) (q0 := 0) (ci := 4) rfl rfl (c_X4_knowingOnes _ E (o := o) (ik := ik) (be := be) (so := so) (tp := tp) (fr := fr) (tq := tq) (vl := vl) (wr := wr) (s := s) ) gX4_count_X4_knowingOnes cp_X4_knowingOnes (by decide) [0, 1] [] [0, 1] ⟨rfl, rfl, by decide, rfl⟩ rfl rfl (Nat.le_of_ble_eq_true rfl) dX4_count_53 ?_
  exact G.iret hX hQ dX4_count_56 (by rfl) (by rfl)
set_option maxHeartbeats 4000000 in
set_option maxRecDepth 100000 in
theorem c_X4_countbad (l : Launch) (E : EV) (x : Int32) (o : Nat → Nat) (ik : Int32) (be : Int32) (so : Int32) (tp : Int32) (fr : Int32) (tq : Int32) (vl : Int32) (wr : Int32) (stt : Nat → Int32) (h1 : ¬ x = 0) (h2 : ¬ x = 1) (h3 : ¬ x = 2) (h4 : ¬ x = 3) : CI l yX4_count wsX4_count rmX4_count E [.ref (o 0), .int x] [(o 0, moO o ik be so tp fr tq vl wr), (o 5, arI E 7 stt)] [(o 0, moO o ik be so tp fr tq vl wr), (o 5, arI E 7 (upd stt 0 (stt 0 + 1)))] ((-1000000001)) := by
  refine CI.of (own := RX4) (cc := cX4_count) (nL := 2) (rt := (some .int)) (by decide) rfl rfl (Nat.le_of_ble_eq_true rfl) (fun X hX hQ => ?_)
  show G E X 2 0 [(0, .ref (o 0)), (1, .int x)] [] [(o 0, moO o ik be so tp fr tq vl wr), (o 5, arI E 7 stt)]
  refine G.iload_n hX 1 rfl dX4_count_0 ?_
  refine G.ie (y := x) rfl ?_
  by_cases c1_0 : x = 0
  · refine G.ie (y := 0) c1_0 ?_
    refine G.tin hX (tgt := 32) dX4_count_1 (by decide) (by decide) rfl (by decide) ?_
    exact absurd c1_0 h1
  by_cases c1_1 : x = 1
  · refine G.ie (y := 1) c1_1 ?_
    refine G.tin hX (tgt := 37) dX4_count_1 (by decide) (by decide) rfl (by decide) ?_
    exact absurd c1_1 h2
  by_cases c1_2 : x = 2
  · refine G.ie (y := 2) c1_2 ?_
    refine G.tin hX (tgt := 42) dX4_count_1 (by decide) (by decide) rfl (by decide) ?_
    exact absurd c1_2 h3
  by_cases c1_3 : x = 3
  · refine G.ie (y := 3) c1_3 ?_
    refine G.tin hX (tgt := 52) dX4_count_1 (by decide) (by decide) rfl (by decide) ?_
    exact absurd c1_3 h4
  refine G.tout hX (tgt := 57) dX4_count_1 (by have t0 := ne_toInt c1_0; have t1 := ne_toInt c1_1; have t2 := ne_toInt c1_2; have t3 := ne_toInt c1_3; simp at t0 t1 t2 t3; omega) (by decide) ?_
  refine G.aload_n hX 0 rfl dX4_count_57 ?_
  refine G.ldc hX (v := -1000000001) (by decide +kernel) dX4_count_58 ?_
  refine G.vi hX (As := [.int ((-1000000001))]) (st := []) (wr := []) (wf := [(o 0, moO o ik be so tp fr tq vl wr), (o 5, arI E 7 (upd stt 0 (stt 0 + 1)))]) (q0 := 0) (ci := 4) rfl rfl (c_X4_finds0 _ E (o := o) (ik := ik) (be := be) (so := so) (tp := tp) (fr := fr) (tq := tq) (vl := vl) (wr := wr) (stt := stt) ) gX4_count_X4_finds cp_X4_finds (by decide) [0, 1] [] [0, 1] ⟨rfl, rfl, by decide, rfl⟩ rfl rfl (Nat.le_of_ble_eq_true rfl) dX4_count_60 ?_
  exact G.iret hX hQ dX4_count_63 (by rfl) (by rfl)
abbrev rmX4_status : Room := { frames := 1, cells := 0, slots := 0, locals := 25 }
theorem cp_X4_status : CP yX4_status RX4 wsX4_status 4 1 rmX4_status := ⟨⟨_, _, _, rfl⟩, rfl, rfl, by decide +kernel⟩
theorem inc_X4_status_4 : ∀ w ∈ u_ws RX4 TX4 19, w ∈ wsX4_status := by decide +kernel
set_option maxHeartbeats 4000000 in
set_option maxRecDepth 100000 in
theorem c_X4_statusbad (l : Launch) (E : EV) (x : Int32) (o : Nat → Nat) (ik : Int32) (be : Int32) (so : Int32) (tp : Int32) (fr : Int32) (tq : Int32) (vl : Int32) (wr : Int32) (stt : Nat → Int32) (h1 : inI x (-1) 6 = false) : CI l yX4_status wsX4_status rmX4_status E [.ref (o 0), .int x] [(o 0, moO o ik be so tp fr tq vl wr), (o 5, arI E 7 stt)] [(o 0, moO o ik be so tp fr tq vl wr), (o 5, arI E 7 (upd stt 0 (stt 0 + 1)))] ((-1000000001)) := by
  refine CI.of (own := RX4) (cc := cX4_status) (nL := 4) (rt := (some .int)) (by decide) rfl rfl (Nat.le_of_ble_eq_true rfl) (fun X hX hQ => ?_)
  show G E X 4 0 [(0, .ref (o 0)), (1, .int x)] [] [(o 0, moO o ik be so tp fr tq vl wr), (o 5, arI E 7 stt)]
  refine G.iload_n hX 1 rfl dX4_status_0 ?_
  refine G.i2l hX dX4_status_1 ?_
  refine G.ldc2 hX (v := -1) (by decide +kernel) dX4_status_2 ?_
  refine G.ldc2 hX (v := 6) (by decide +kernel) dX4_status_5 ?_
  refine G.s0i hX (As := [.long x.toInt64, .long ((-1)), .long 6]) (st := []) (c_X4_in _ E (v := x.toInt64) (lo := (-1)) (hi := 6) ) gX4_status_X4_in cp_X4_in (by decide) rfl rfl (Nat.le_of_ble_eq_true rfl) dX4_status_8 ?_
  refine G.ie (y := bI (inI x ((-1)) 6)) rfl ?_
  refine G.b_ne hX (tgt := 21) (by decide) dX4_status_11 (fun c11 => ?_) (fun c11 => ?_)
  · exact absurd h1 (by simp [c11])
  · refine G.aload_n hX 0 rfl dX4_status_14 ?_
    refine G.ldc hX (v := -1000000001) (by decide +kernel) dX4_status_15 ?_
    refine G.vi hX (As := [.int ((-1000000001))]) (st := []) (wr := []) (wf := [(o 0, moO o ik be so tp fr tq vl wr), (o 5, arI E 7 (upd stt 0 (stt 0 + 1)))]) (q0 := 0) (ci := 4) rfl rfl (c_X4_finds0 _ E (o := o) (ik := ik) (be := be) (so := so) (tp := tp) (fr := fr) (tq := tq) (vl := vl) (wr := wr) (stt := stt) ) gX4_status_X4_finds cp_X4_finds (by decide) [0, 1] [] [0, 1] ⟨rfl, rfl, by decide, rfl⟩ rfl rfl (Nat.le_of_ble_eq_true rfl) dX4_status_17 ?_
    exact G.iret hX hQ dX4_status_20 (by rfl) (by rfl)
set_option maxHeartbeats 4000000 in
set_option maxRecDepth 100000 in
theorem c_X4_statusall (l : Launch) (E : EV) (o : Nat → Nat) (ik : Int32) (be : Int32) (so : Int32) (tp : Int32) (fr : Int32) (tq : Int32) (vl : Int32) (wr : Int32) (stt : Nat → Int32)  : CI l yX4_status wsX4_status rmX4_status E [.ref (o 0), .int ((-1))] [(o 0, moO o ik be so tp fr tq vl wr), (o 5, arI E 7 stt)] [(o 0, moO o ik be so tp fr tq vl wr), (o 5, arI E 7 stt)] (it (ms_stA stt) 7 0) := by
  refine CI.of (own := RX4) (cc := cX4_status) (nL := 4) (rt := (some .int)) (by decide) rfl rfl (Nat.le_of_ble_eq_true rfl) (fun X hX hQ => ?_)
  show G E X 4 0 [(0, .ref (o 0)), (1, .int ((-1)))] [] [(o 0, moO o ik be so tp fr tq vl wr), (o 5, arI E 7 stt)]
  refine G.iload_n hX 1 rfl dX4_status_0 ?_
  refine G.i2l hX dX4_status_1 ?_
  refine G.le (y := -1) (by decide) ?_
  refine G.ldc2 hX (v := -1) (by decide +kernel) dX4_status_2 ?_
  refine G.ldc2 hX (v := 6) (by decide +kernel) dX4_status_5 ?_
  refine G.s0i hX (As := [.long ((-1)), .long ((-1)), .long 6]) (st := []) (c_X4_in _ E (v := (-1)) (lo := (-1)) (hi := 6) ) gX4_status_X4_in cp_X4_in (by decide) rfl rfl (Nat.le_of_ble_eq_true rfl) dX4_status_8 ?_
  refine G.b_ne hX (tgt := 21) (by decide) dX4_status_11 (fun c11 => ?_) (fun c11 => ?_)
  · refine G.iconst hX (v := 0) (by decide) dX4_status_21 ?_
    refine G.istore_n hX (lv' := [(2, .int 0), (0, .ref (o 0)), (1, .int ((-1)))]) rfl (by decide) rfl dX4_status_22 ?_
    refine G.iconst hX (v := 0) (by decide) dX4_status_23 ?_
    refine G.istore_n hX (lv' := [(3, .int 0), (2, .int 0), (0, .ref (o 0)), (1, .int ((-1)))]) rfl (by decide) rfl dX4_status_24 ?_
    have L25 : ∀ (n : Nat) (k : Nat), k ≤ 7 → 8 ≤ k + n → G E X 4 25 [(0, .ref (o 0)), (1, .int ((-1))), (2, .int (it (ms_stA stt) k 0)), (3, .int (nI k))] [] [(o 0, moO o ik be so tp fr tq vl wr), (o 5, arI E 7 stt)] := by
      intro n
      induction n with
      | zero => intro k hl25_0 hl25_1; exact absurd hl25_1 (by omega)
      | succ n ih25 =>
        intro k hl25_0 hl25_1
        refine G.iload_n hX 3 rfl dX4_status_25 ?_
        refine G.bipush hX (v := 7) (by decide) dX4_status_26 ?_
        refine G.n_ge hX (a := k) (b := 7) (tgt := 59) (by omega) (by omega) (by decide) dX4_status_28 (fun c28 => ?_) (fun c28 => ?_)
        · refine G.iload_n hX 2 rfl dX4_status_59 ?_
          exact G.iret hX hQ dX4_status_60 (by obtain rfl : k = 7 := (by omega); rfl) (by rfl)
        · refine G.iload_n hX 2 rfl dX4_status_31 ?_
          refine G.iload_n hX 1 rfl dX4_status_32 ?_
          refine G.if_lt hX (tgt := 41) (by decide) dX4_status_33 (fun _ => ?_) (fun c33 => absurd c33 (by decide))
          refine G.aload_n hX 0 rfl dX4_status_41 ?_
          refine G.get hX inc_X4_status_4 0 rfl rfl 4 (by decide) (by decide +kernel) rfl dX4_status_42 ?_
          refine G.iload_n hX 3 rfl dX4_status_45 ?_
          refine G.iald hX (j := k) 1 rfl (by omega) (by omega) dX4_status_46 ?_
          refine G.goto hX (tgt := 51) (by decide) dX4_status_47 ?_
          refine G.iadd hX dX4_status_51 ?_
          refine G.istore_n hX (lv' := [(2, .int ((it (ms_stA stt) k 0) + (stt k))), (0, .ref (o 0)), (1, .int ((-1))), (3, .int (nI k))]) rfl (by decide) rfl dX4_status_52 ?_
          refine G.iinc hX (n := 1) (lv' := [(3, .int (nI (k + 1))), (2, .int ((it (ms_stA stt) k 0) + (stt k))), (0, .ref (o 0)), (1, .int ((-1)))]) 3 rfl (inc_nI k 1 rfl) (by decide) rfl dX4_status_53 ?_
          refine G.goto hX (tgt := 25) (by decide) dX4_status_56 ?_
          refine G.lvp (lv' := [(0, .ref (o 0)), (1, .int ((-1))), (2, .int ((it (ms_stA stt) k 0) + (stt k))), (3, .int (nI (k + 1)))]) [2, 3, 1, 0] rfl ?_
          refine G.lve (lv' := [(0, .ref (o 0)), (1, .int ((-1))), (2, .int (it (ms_stA stt) (k + 1) 0)), (3, .int (nI ((k + 1))))]) (by rfl) ?_
          exact ih25 (k + 1) (by omega) (by omega)
    refine G.lvp (lv' := [(0, .ref (o 0)), (1, .int ((-1))), (2, .int 0), (3, .int 0)]) [2, 3, 1, 0] rfl ?_
    refine G.lve (lv' := [(0, .ref (o 0)), (1, .int ((-1))), (2, .int (it (ms_stA stt) 0 0)), (3, .int (nI 0))]) (by rfl) ?_
    exact L25 8 0 (by omega) (by omega)
  · exact absurd c11 (by decide)
set_option maxHeartbeats 4000000 in
set_option maxRecDepth 100000 in
theorem c_X4_statusone (l : Launch) (E : EV) (w : Nat) (o : Nat → Nat) (ik : Int32) (be : Int32) (so : Int32) (tp : Int32) (fr : Int32) (tq : Int32) (vl : Int32) (wr : Int32) (stt : Nat → Int32) (h1 : w < 7) : CI l yX4_status wsX4_status rmX4_status E [.ref (o 0), .int (nI w)] [(o 0, moO o ik be so tp fr tq vl wr), (o 5, arI E 7 stt)] [(o 0, moO o ik be so tp fr tq vl wr), (o 5, arI E 7 stt)] (it (ms_stO stt w) 7 0) := by
  refine CI.of (own := RX4) (cc := cX4_status) (nL := 4) (rt := (some .int)) (by decide) rfl rfl (Nat.le_of_ble_eq_true rfl) (fun X hX hQ => ?_)
  show G E X 4 0 [(0, .ref (o 0)), (1, .int (nI w))] [] [(o 0, moO o ik be so tp fr tq vl wr), (o 5, arI E 7 stt)]
  refine G.iload_n hX 1 rfl dX4_status_0 ?_
  refine G.i2l hX dX4_status_1 ?_
  refine G.le (y := lN w) (nI_l (by omega)) ?_
  refine G.ldc2 hX (v := -1) (by decide +kernel) dX4_status_2 ?_
  refine G.ldc2 hX (v := 6) (by decide +kernel) dX4_status_5 ?_
  refine G.s0i hX (As := [.long (lN w), .long ((-1)), .long 6]) (st := []) (c_X4_in _ E (v := lN w) (lo := (-1)) (hi := 6) ) gX4_status_X4_in cp_X4_in (by decide) rfl rfl (Nat.le_of_ble_eq_true rfl) dX4_status_8 ?_
  refine G.b_ne hX (tgt := 21) (by decide) dX4_status_11 (fun c11 => ?_) (fun c11 => ?_)
  · refine G.iconst hX (v := 0) (by decide) dX4_status_21 ?_
    refine G.istore_n hX (lv' := [(2, .int 0), (0, .ref (o 0)), (1, .int (nI w))]) rfl (by decide) rfl dX4_status_22 ?_
    refine G.iconst hX (v := 0) (by decide) dX4_status_23 ?_
    refine G.istore_n hX (lv' := [(3, .int 0), (2, .int 0), (0, .ref (o 0)), (1, .int (nI w))]) rfl (by decide) rfl dX4_status_24 ?_
    have L25 : ∀ (n : Nat) (k : Nat), k ≤ 7 → 8 ≤ k + n → G E X 4 25 [(0, .ref (o 0)), (1, .int (nI w)), (2, .int (it (ms_stO stt w) k 0)), (3, .int (nI k))] [] [(o 0, moO o ik be so tp fr tq vl wr), (o 5, arI E 7 stt)] := by
      intro n
      induction n with
      | zero => intro k hl25_0 hl25_1; exact absurd hl25_1 (by omega)
      | succ n ih25 =>
        intro k hl25_0 hl25_1
        refine G.iload_n hX 3 rfl dX4_status_25 ?_
        refine G.bipush hX (v := 7) (by decide) dX4_status_26 ?_
        refine G.n_ge hX (a := k) (b := 7) (tgt := 59) (by omega) (by omega) (by decide) dX4_status_28 (fun c28 => ?_) (fun c28 => ?_)
        · refine G.iload_n hX 2 rfl dX4_status_59 ?_
          exact G.iret hX hQ dX4_status_60 (by obtain rfl : k = 7 := (by omega); rfl) (by rfl)
        · have J51 : G E X 4 51 [(0, .ref (o 0)), (1, .int (nI w)), (3, .int (nI k))] [.int (if k = w then stt k else 0), .int (it (ms_stO stt w) k 0)] [(o 0, moO o ik be so tp fr tq vl wr), (o 5, arI E 7 stt)] := by
            refine G.iadd hX dX4_status_51 ?_
            refine G.istore_n hX (lv' := [(2, .int ((it (ms_stO stt w) k 0) + (if k = w then stt k else 0))), (0, .ref (o 0)), (1, .int (nI w)), (3, .int (nI k))]) rfl (by decide) rfl dX4_status_52 ?_
            refine G.iinc hX (n := 1) (lv' := [(3, .int (nI (k + 1))), (2, .int ((it (ms_stO stt w) k 0) + (if k = w then stt k else 0))), (0, .ref (o 0)), (1, .int (nI w))]) 3 rfl (inc_nI k 1 rfl) (by decide) rfl dX4_status_53 ?_
            refine G.goto hX (tgt := 25) (by decide) dX4_status_56 ?_
            refine G.lvp (lv' := [(0, .ref (o 0)), (1, .int (nI w)), (2, .int ((it (ms_stO stt w) k 0) + (if k = w then stt k else 0))), (3, .int (nI (k + 1)))]) [2, 3, 1, 0] rfl ?_
            refine G.lve (lv' := [(0, .ref (o 0)), (1, .int (nI w)), (2, .int (it (ms_stO stt w) (k + 1) 0)), (3, .int (nI ((k + 1))))]) (by rfl) ?_
            exact ih25 (k + 1) (by omega) (by omega)
          refine G.iload_n hX 2 rfl dX4_status_31 ?_
          refine G.iload_n hX 1 rfl dX4_status_32 ?_
          refine G.if_lt hX (tgt := 41) (by decide) dX4_status_33 (fun c33 => absurd c33 (nI_pos (by omega))) (fun _ => ?_)
          refine G.iload_n hX 3 rfl dX4_status_36 ?_
          refine G.iload_n hX 1 rfl dX4_status_37 ?_
          refine G.n_ne hX (a := k) (b := w) (tgt := 50) (by omega) (by omega) (by decide) dX4_status_38 (fun c38 => ?_) (fun c38 => ?_)
          · refine G.iconst hX (v := 0) (by decide) dX4_status_50 ?_
            refine G.lvp (lv' := [(0, .ref (o 0)), (1, .int (nI w)), (3, .int (nI k))]) [0, 1, 3] rfl ?_
            refine G.ve (y := .int (if k = w then stt k else 0)) (by first | rfl | (simp only [c11, c28, c38, ↓reduceIte, Bool.not_true, Bool.not_false, Bool.and_true, Bool.true_and, Bool.and_false, Bool.false_and, Bool.or_true, Bool.true_or, Bool.or_false, Bool.false_or, decide_true, decide_false, not_true_eq_false, not_false_eq_true, Bool.false_eq_true, Bool.true_eq_false]; done) | (simp only [c11, c28, c38, ↓reduceIte, Bool.not_true, Bool.not_false, Bool.and_true, Bool.true_and, Bool.and_false, Bool.false_and, Bool.or_true, Bool.true_or, Bool.or_false, Bool.false_or, decide_true, decide_false, not_true_eq_false, not_false_eq_true, Bool.false_eq_true, Bool.true_eq_false]; rfl) | (simp [c11, c28, c38]; done)) ?_
            exact J51
          · refine G.aload_n hX 0 rfl dX4_status_41 ?_
            refine G.get hX inc_X4_status_4 0 rfl rfl 4 (by decide) (by decide +kernel) rfl dX4_status_42 ?_
            refine G.iload_n hX 3 rfl dX4_status_45 ?_
            refine G.iald hX (j := k) 1 rfl (by omega) (by omega) dX4_status_46 ?_
            refine G.goto hX (tgt := 51) (by decide) dX4_status_47 ?_
            refine G.lvp (lv' := [(0, .ref (o 0)), (1, .int (nI w)), (3, .int (nI k))]) [0, 1, 3] rfl ?_
            refine G.ve (y := .int (if k = w then stt k else 0)) (by first | rfl | (simp only [c11, c28, c38, ↓reduceIte, Bool.not_true, Bool.not_false, Bool.and_true, Bool.true_and, Bool.and_false, Bool.false_and, Bool.or_true, Bool.true_or, Bool.or_false, Bool.false_or, decide_true, decide_false, not_true_eq_false, not_false_eq_true, Bool.false_eq_true, Bool.true_eq_false]; done) | (simp only [c11, c28, c38, ↓reduceIte, Bool.not_true, Bool.not_false, Bool.and_true, Bool.true_and, Bool.and_false, Bool.false_and, Bool.or_true, Bool.true_or, Bool.or_false, Bool.false_or, decide_true, decide_false, not_true_eq_false, not_false_eq_true, Bool.false_eq_true, Bool.true_eq_false]; rfl) | (simp [c11, c28, c38]; done)) ?_
            exact J51
    refine G.lvp (lv' := [(0, .ref (o 0)), (1, .int (nI w)), (2, .int 0), (3, .int 0)]) [2, 3, 1, 0] rfl ?_
    refine G.lve (lv' := [(0, .ref (o 0)), (1, .int (nI w)), (2, .int (it (ms_stO stt w) 0 0)), (3, .int (nI 0))]) (by rfl) ?_
    exact L25 8 0 (by omega) (by omega)
  · exact absurd c11 (by rw [inR_w w h1]; decide)
