abbrev rmX3_of : Room := { frames := 2, cells := 0, slots := 0, locals := 38 }
theorem cp_X3_of : CP yX3_of RX3 wsX3_of 3 2 rmX3_of := ⟨⟨_, _, _, rfl⟩, rfl, rfl, by decide +kernel⟩
theorem inc_X3_of_0 : ∀ w ∈ u_ws RX0 TX0 6, w ∈ wsX3_of := by decide +kernel
theorem inc_X3_of_3 : ∀ w ∈ u_ws RX3 TX3 9, w ∈ wsX3_of := by decide +kernel
set_option maxHeartbeats 4000000 in
set_option maxRecDepth 100000 in
theorem c_X3_ofbad (l : Launch) (E : EV) (x : Int32) (y : Int32) (ox : Nat → Nat) (rr : Nat → Nat) (rk : Nat → Nat) (rt : Nat → Nat) (rb : Nat → Nat) (xt : Nat → Nat) (kp : Int32) (fo : Nat → Int32) (h1 : cIn 12 x = false) : CI l yX3_of wsX3_of rmX3_of E [.ref (ox 0), .int x, .int y] [(ox 0, noO ox rr rk rt rb xt kp), (ox 3, arI E 7 fo)] [(ox 0, noO ox rr rk rt rb xt kp), (ox 3, arI E 7 (upd fo 0 (fo 0 + 1)))] ((-1000000001)) := by
  refine CI.of (own := RX3) (cc := cX3_of) (nL := 3) (rt := (some .int)) (by decide) rfl rfl (Nat.le_of_ble_eq_true rfl) (fun X hX hQ => ?_)
  show G E X 3 0 [(0, .ref (ox 0)), (1, .int x), (2, .int y)] [] [(ox 0, noO ox rr rk rt rb xt kp), (ox 3, arI E 7 fo)]
  refine G.iload_n hX 1 rfl dX3_of_0 ?_
  refine G.s0i hX (As := [.int x]) (st := []) (c_X3_isTree _ E (x := x) ) gX3_of_X3_isTree cp_X3_isTree (by decide) rfl rfl (Nat.le_of_ble_eq_true rfl) dX3_of_1 ?_
  refine G.b_ne hX (tgt := 13) (by decide) dX3_of_4 (fun c4 => ?_) (fun c4 => ?_)
  · exact absurd h1 (by simp [c4])
  · refine G.aload_n hX 0 rfl dX3_of_7 ?_
    refine G.iconst hX (v := 0) (by decide) dX3_of_8 ?_
    refine G.vi hX (As := [.int 0]) (st := []) (wr := []) (wf := [(ox 0, noO ox rr rk rt rb xt kp), (ox 3, arI E 7 (upd fo 0 (fo 0 + 1)))]) (q0 := 0) (ci := 3) rfl rfl (c_X3_finding0 _ E (ox := ox) (rr := rr) (rk := rk) (rt := rt) (rb := rb) (xt := xt) (kp := kp) (fo := fo) ) gX3_of_X3_finding cp_X3_finding (by decide) [0, 1] [] [0, 1] ⟨rfl, rfl, by decide, rfl⟩ rfl rfl (Nat.le_of_ble_eq_true rfl) dX3_of_9 ?_
    exact G.iret hX hQ dX3_of_12 (by rfl) (by rfl)
set_option maxHeartbeats 4000000 in
set_option maxRecDepth 100000 in
theorem c_X3_ofbad2 (l : Launch) (E : EV) (t : Nat) (y : Int32) (ox : Nat → Nat) (rr : Nat → Nat) (rk : Nat → Nat) (rt : Nat → Nat) (rb : Nat → Nat) (xt : Nat → Nat) (kp : Int32) (fo : Nat → Int32) (h1 : t < 12) (h2 : ¬ y = 0) (h3 : ¬ y = 1) (h4 : ¬ y = 2) (h5 : ¬ y = 3) (h6 : ¬ y = 4) (h7 : ¬ y = 5) : CI l yX3_of wsX3_of rmX3_of E [.ref (ox 0), .int (nI t), .int y] [(ox 0, noO ox rr rk rt rb xt kp), (ox 3, arI E 7 fo)] [(ox 0, noO ox rr rk rt rb xt kp), (ox 3, arI E 7 (upd fo 0 (fo 0 + 1)))] ((-1000000001)) := by
  refine CI.of (own := RX3) (cc := cX3_of) (nL := 3) (rt := (some .int)) (by decide) rfl rfl (Nat.le_of_ble_eq_true rfl) (fun X hX hQ => ?_)
  show G E X 3 0 [(0, .ref (ox 0)), (1, .int (nI t)), (2, .int y)] [] [(ox 0, noO ox rr rk rt rb xt kp), (ox 3, arI E 7 fo)]
  refine G.iload_n hX 1 rfl dX3_of_0 ?_
  refine G.s0i hX (As := [.int (nI t)]) (st := []) (c_X3_isTreen _ E (x := t) (h1 := by omega)) gX3_of_X3_isTree cp_X3_isTree (by decide) rfl rfl (Nat.le_of_ble_eq_true rfl) dX3_of_1 ?_
  refine G.if_ne hX (tgt := 13) (by decide) dX3_of_4 (fun _ => ?_) (fun c4 => absurd c4 (by decide))
  refine G.iload_n hX 2 rfl dX3_of_13 ?_
  refine G.ie (y := y) rfl ?_
  by_cases c14_0 : y = 0
  · refine G.ie (y := 0) c14_0 ?_
    refine G.tin hX (tgt := 52) dX3_of_14 (by decide) (by decide) rfl (by decide) ?_
    exact absurd c14_0 h2
  by_cases c14_1 : y = 1
  · refine G.ie (y := 1) c14_1 ?_
    refine G.tin hX (tgt := 62) dX3_of_14 (by decide) (by decide) rfl (by decide) ?_
    exact absurd c14_1 h3
  by_cases c14_2 : y = 2
  · refine G.ie (y := 2) c14_2 ?_
    refine G.tin hX (tgt := 72) dX3_of_14 (by decide) (by decide) rfl (by decide) ?_
    exact absurd c14_2 h4
  by_cases c14_3 : y = 3
  · refine G.ie (y := 3) c14_3 ?_
    refine G.tin hX (tgt := 81) dX3_of_14 (by decide) (by decide) rfl (by decide) ?_
    exact absurd c14_3 h5
  by_cases c14_4 : y = 4
  · refine G.ie (y := 4) c14_4 ?_
    refine G.tin hX (tgt := 90) dX3_of_14 (by decide) (by decide) rfl (by decide) ?_
    exact absurd c14_4 h6
  by_cases c14_5 : y = 5
  · refine G.ie (y := 5) c14_5 ?_
    refine G.tin hX (tgt := 108) dX3_of_14 (by decide) (by decide) rfl (by decide) ?_
    exact absurd c14_5 h7
  refine G.tout hX (tgt := 118) dX3_of_14 (by have t0 := ne_toInt c14_0; have t1 := ne_toInt c14_1; have t2 := ne_toInt c14_2; have t3 := ne_toInt c14_3; have t4 := ne_toInt c14_4; have t5 := ne_toInt c14_5; simp at t0 t1 t2 t3 t4 t5; omega) (by decide) ?_
  refine G.aload_n hX 0 rfl dX3_of_118 ?_
  refine G.iconst hX (v := 0) (by decide) dX3_of_119 ?_
  refine G.vi hX (As := [.int 0]) (st := []) (wr := []) (wf := [(ox 0, noO ox rr rk rt rb xt kp), (ox 3, arI E 7 (upd fo 0 (fo 0 + 1)))]) (q0 := 0) (ci := 3) rfl rfl (c_X3_finding0 _ E (ox := ox) (rr := rr) (rk := rk) (rt := rt) (rb := rb) (xt := xt) (kp := kp) (fo := fo) ) gX3_of_X3_finding cp_X3_finding (by decide) [0, 1] [] [0, 1] ⟨rfl, rfl, by decide, rfl⟩ rfl rfl (Nat.le_of_ble_eq_true rfl) dX3_of_120 ?_
  exact G.iret hX hQ dX3_of_123 (by rfl) (by rfl)
set_option maxHeartbeats 4000000 in
set_option maxRecDepth 100000 in
theorem c_X3_of0 (l : Launch) (E : EV) (t : Nat) (r : AV) (ox : Nat → Nat) (rr : Nat → Nat) (rk : Nat → Nat) (rt : Nat → Nat) (rb : Nat → Nat) (xt : Nat → Nat) (kp : Int32) (h1 : t < 12) : CI l yX3_of wsX3_of rmX3_of E [.ref (ox 0), .int (nI t), .int 0] [(ox 0, noO ox rr rk rt rb xt kp), (rr 0, avO rr r.1 r.2.1), (rr 1, arI E 12 r.2.2.1), (rr 2, arI E 12 r.2.2.2.1), (rr 3, arI E 12 r.2.2.2.2.1), (rr 4, arI E 96 r.2.2.2.2.2)] [(ox 0, noO ox rr rk rt rb xt kp), (rr 0, avO rr r.1 r.2.1), (rr 1, arI E 12 r.2.2.1), (rr 2, arI E 12 r.2.2.2.1), (rr 3, arI E 12 r.2.2.2.2.1), (rr 4, arI E 96 r.2.2.2.2.2)] (r.2.2.1 t) := by
  refine CI.of (own := RX3) (cc := cX3_of) (nL := 3) (rt := (some .int)) (by decide) rfl rfl (Nat.le_of_ble_eq_true rfl) (fun X hX hQ => ?_)
  show G E X 3 0 [(0, .ref (ox 0)), (1, .int (nI t)), (2, .int 0)] [] [(ox 0, noO ox rr rk rt rb xt kp), (rr 0, avO rr r.1 r.2.1), (rr 1, arI E 12 r.2.2.1), (rr 2, arI E 12 r.2.2.2.1), (rr 3, arI E 12 r.2.2.2.2.1), (rr 4, arI E 96 r.2.2.2.2.2)]
  refine G.iload_n hX 1 rfl dX3_of_0 ?_
  refine G.s0i hX (As := [.int (nI t)]) (st := []) (c_X3_isTreen _ E (x := t) (h1 := by omega)) gX3_of_X3_isTree cp_X3_isTree (by decide) rfl rfl (Nat.le_of_ble_eq_true rfl) dX3_of_1 ?_
  refine G.if_ne hX (tgt := 13) (by decide) dX3_of_4 (fun _ => ?_) (fun c4 => absurd c4 (by decide))
  refine G.iload_n hX 2 rfl dX3_of_13 ?_
  refine G.tin hX (tgt := 52) dX3_of_14 (by decide) (by decide) rfl (by decide) ?_
  refine G.aload_n hX 0 rfl dX3_of_52 ?_
  refine G.get hX inc_X3_of_3 0 rfl rfl 0 (by decide) (by decide +kernel) rfl dX3_of_53 ?_
  refine G.get hX inc_X3_of_0 1 rfl rfl 2 (by decide) (by decide +kernel) rfl dX3_of_56 ?_
  refine G.iload_n hX 1 rfl dX3_of_59 ?_
  refine G.iald hX (j := t) 2 rfl (by omega) (by omega) dX3_of_60 ?_
  exact G.iret hX hQ dX3_of_61 (by rfl) (by rfl)
set_option maxHeartbeats 4000000 in
set_option maxRecDepth 100000 in
theorem c_X3_of1 (l : Launch) (E : EV) (t : Nat) (r : AV) (ox : Nat → Nat) (rr : Nat → Nat) (rk : Nat → Nat) (rt : Nat → Nat) (rb : Nat → Nat) (xt : Nat → Nat) (kp : Int32) (h1 : t < 12) : CI l yX3_of wsX3_of rmX3_of E [.ref (ox 0), .int (nI t), .int 1] [(ox 0, noO ox rr rk rt rb xt kp), (rr 0, avO rr r.1 r.2.1), (rr 1, arI E 12 r.2.2.1), (rr 2, arI E 12 r.2.2.2.1), (rr 3, arI E 12 r.2.2.2.2.1), (rr 4, arI E 96 r.2.2.2.2.2)] [(ox 0, noO ox rr rk rt rb xt kp), (rr 0, avO rr r.1 r.2.1), (rr 1, arI E 12 r.2.2.1), (rr 2, arI E 12 r.2.2.2.1), (rr 3, arI E 12 r.2.2.2.2.1), (rr 4, arI E 96 r.2.2.2.2.2)] (r.2.2.2.1 t) := by
  refine CI.of (own := RX3) (cc := cX3_of) (nL := 3) (rt := (some .int)) (by decide) rfl rfl (Nat.le_of_ble_eq_true rfl) (fun X hX hQ => ?_)
  show G E X 3 0 [(0, .ref (ox 0)), (1, .int (nI t)), (2, .int 1)] [] [(ox 0, noO ox rr rk rt rb xt kp), (rr 0, avO rr r.1 r.2.1), (rr 1, arI E 12 r.2.2.1), (rr 2, arI E 12 r.2.2.2.1), (rr 3, arI E 12 r.2.2.2.2.1), (rr 4, arI E 96 r.2.2.2.2.2)]
  refine G.iload_n hX 1 rfl dX3_of_0 ?_
  refine G.s0i hX (As := [.int (nI t)]) (st := []) (c_X3_isTreen _ E (x := t) (h1 := by omega)) gX3_of_X3_isTree cp_X3_isTree (by decide) rfl rfl (Nat.le_of_ble_eq_true rfl) dX3_of_1 ?_
  refine G.if_ne hX (tgt := 13) (by decide) dX3_of_4 (fun _ => ?_) (fun c4 => absurd c4 (by decide))
  refine G.iload_n hX 2 rfl dX3_of_13 ?_
  refine G.tin hX (tgt := 62) dX3_of_14 (by decide) (by decide) rfl (by decide) ?_
  refine G.aload_n hX 0 rfl dX3_of_62 ?_
  refine G.get hX inc_X3_of_3 0 rfl rfl 0 (by decide) (by decide +kernel) rfl dX3_of_63 ?_
  refine G.get hX inc_X3_of_0 1 rfl rfl 3 (by decide) (by decide +kernel) rfl dX3_of_66 ?_
  refine G.iload_n hX 1 rfl dX3_of_69 ?_
  refine G.iald hX (j := t) 3 rfl (by omega) (by omega) dX3_of_70 ?_
  exact G.iret hX hQ dX3_of_71 (by rfl) (by rfl)
set_option maxHeartbeats 4000000 in
set_option maxRecDepth 100000 in
theorem c_X3_of2 (l : Launch) (E : EV) (t : Nat) (r : AV) (ox : Nat → Nat) (rr : Nat → Nat) (rk : Nat → Nat) (rt : Nat → Nat) (rb : Nat → Nat) (xt : Nat → Nat) (kp : Int32) (h1 : t < 12) : CI l yX3_of wsX3_of rmX3_of E [.ref (ox 0), .int (nI t), .int 2] [(ox 0, noO ox rr rk rt rb xt kp), (rr 0, avO rr r.1 r.2.1), (rr 1, arI E 12 r.2.2.1), (rr 2, arI E 12 r.2.2.2.1), (rr 3, arI E 12 r.2.2.2.2.1), (rr 4, arI E 96 r.2.2.2.2.2)] [(ox 0, noO ox rr rk rt rb xt kp), (rr 0, avO rr r.1 r.2.1), (rr 1, arI E 12 r.2.2.1), (rr 2, arI E 12 r.2.2.2.1), (rr 3, arI E 12 r.2.2.2.2.1), (rr 4, arI E 96 r.2.2.2.2.2)] (av_leans r t) := by
  refine CI.of (own := RX3) (cc := cX3_of) (nL := 3) (rt := (some .int)) (by decide) rfl rfl (Nat.le_of_ble_eq_true rfl) (fun X hX hQ => ?_)
  show G E X 3 0 [(0, .ref (ox 0)), (1, .int (nI t)), (2, .int 2)] [] [(ox 0, noO ox rr rk rt rb xt kp), (rr 0, avO rr r.1 r.2.1), (rr 1, arI E 12 r.2.2.1), (rr 2, arI E 12 r.2.2.2.1), (rr 3, arI E 12 r.2.2.2.2.1), (rr 4, arI E 96 r.2.2.2.2.2)]
  refine G.iload_n hX 1 rfl dX3_of_0 ?_
  refine G.s0i hX (As := [.int (nI t)]) (st := []) (c_X3_isTreen _ E (x := t) (h1 := by omega)) gX3_of_X3_isTree cp_X3_isTree (by decide) rfl rfl (Nat.le_of_ble_eq_true rfl) dX3_of_1 ?_
  refine G.if_ne hX (tgt := 13) (by decide) dX3_of_4 (fun _ => ?_) (fun c4 => absurd c4 (by decide))
  refine G.iload_n hX 2 rfl dX3_of_13 ?_
  refine G.tin hX (tgt := 72) dX3_of_14 (by decide) (by decide) rfl (by decide) ?_
  refine G.aload_n hX 0 rfl dX3_of_72 ?_
  refine G.get hX inc_X3_of_3 0 rfl rfl 0 (by decide) (by decide +kernel) rfl dX3_of_73 ?_
  refine G.iload_n hX 1 rfl dX3_of_76 ?_
  refine G.vi hX (As := [.int (nI t)]) (st := []) (wr := [(ox 0, noO ox rr rk rt rb xt kp)]) (wf := [(ox 0, noO ox rr rk rt rb xt kp), (rr 0, avO rr r.1 r.2.1), (rr 1, arI E 12 r.2.2.1), (rr 2, arI E 12 r.2.2.2.1), (rr 3, arI E 12 r.2.2.2.2.1), (rr 4, arI E 96 r.2.2.2.2.2)]) (q0 := 0) (ci := 0) rfl rfl (c_X0_leansOf _ E (q := r) (t := t) (a := rr) (h1 := by omega)) gX3_of_X0_leansOf cp_X0_leansOf (by decide) [1, 2, 3, 4, 5] [0] [0, 1, 2, 3, 4, 5] ⟨rfl, rfl, by decide, rfl⟩ rfl rfl (Nat.le_of_ble_eq_true rfl) dX3_of_77 ?_
  exact G.iret hX hQ dX3_of_80 (by rfl) (by rfl)
set_option maxHeartbeats 4000000 in
set_option maxRecDepth 100000 in
theorem c_X3_of3 (l : Launch) (E : EV) (t : Nat) (r : AV) (ox : Nat → Nat) (rr : Nat → Nat) (rk : Nat → Nat) (rt : Nat → Nat) (rb : Nat → Nat) (xt : Nat → Nat) (kp : Int32) (h1 : t < 12) : CI l yX3_of wsX3_of rmX3_of E [.ref (ox 0), .int (nI t), .int 3] [(ox 0, noO ox rr rk rt rb xt kp), (rr 0, avO rr r.1 r.2.1), (rr 1, arI E 12 r.2.2.1), (rr 2, arI E 12 r.2.2.2.1), (rr 3, arI E 12 r.2.2.2.2.1), (rr 4, arI E 96 r.2.2.2.2.2)] [(ox 0, noO ox rr rk rt rb xt kp), (rr 0, avO rr r.1 r.2.1), (rr 1, arI E 12 r.2.2.1), (rr 2, arI E 12 r.2.2.2.1), (rr 3, arI E 12 r.2.2.2.2.1), (rr 4, arI E 96 r.2.2.2.2.2)] (av_nods r t) := by
  refine CI.of (own := RX3) (cc := cX3_of) (nL := 3) (rt := (some .int)) (by decide) rfl rfl (Nat.le_of_ble_eq_true rfl) (fun X hX hQ => ?_)
  show G E X 3 0 [(0, .ref (ox 0)), (1, .int (nI t)), (2, .int 3)] [] [(ox 0, noO ox rr rk rt rb xt kp), (rr 0, avO rr r.1 r.2.1), (rr 1, arI E 12 r.2.2.1), (rr 2, arI E 12 r.2.2.2.1), (rr 3, arI E 12 r.2.2.2.2.1), (rr 4, arI E 96 r.2.2.2.2.2)]
  refine G.iload_n hX 1 rfl dX3_of_0 ?_
  refine G.s0i hX (As := [.int (nI t)]) (st := []) (c_X3_isTreen _ E (x := t) (h1 := by omega)) gX3_of_X3_isTree cp_X3_isTree (by decide) rfl rfl (Nat.le_of_ble_eq_true rfl) dX3_of_1 ?_
  refine G.if_ne hX (tgt := 13) (by decide) dX3_of_4 (fun _ => ?_) (fun c4 => absurd c4 (by decide))
  refine G.iload_n hX 2 rfl dX3_of_13 ?_
  refine G.tin hX (tgt := 81) dX3_of_14 (by decide) (by decide) rfl (by decide) ?_
  refine G.aload_n hX 0 rfl dX3_of_81 ?_
  refine G.get hX inc_X3_of_3 0 rfl rfl 0 (by decide) (by decide +kernel) rfl dX3_of_82 ?_
  refine G.iload_n hX 1 rfl dX3_of_85 ?_
  refine G.vi hX (As := [.int (nI t)]) (st := []) (wr := [(ox 0, noO ox rr rk rt rb xt kp)]) (wf := [(ox 0, noO ox rr rk rt rb xt kp), (rr 0, avO rr r.1 r.2.1), (rr 1, arI E 12 r.2.2.1), (rr 2, arI E 12 r.2.2.2.1), (rr 3, arI E 12 r.2.2.2.2.1), (rr 4, arI E 96 r.2.2.2.2.2)]) (q0 := 0) (ci := 0) rfl rfl (c_X0_nodsOf _ E (q := r) (t := t) (a := rr) (h1 := by omega)) gX3_of_X0_nodsOf cp_X0_nodsOf (by decide) [1, 2, 3, 4, 5] [0] [0, 1, 2, 3, 4, 5] ⟨rfl, rfl, by decide, rfl⟩ rfl rfl (Nat.le_of_ble_eq_true rfl) dX3_of_86 ?_
  exact G.iret hX hQ dX3_of_89 (by rfl) (by rfl)
set_option maxHeartbeats 4000000 in
set_option maxRecDepth 100000 in
theorem c_X3_of4 (l : Launch) (E : EV) (t : Nat) (r : AV) (ox : Nat → Nat) (rr : Nat → Nat) (rk : Nat → Nat) (rt : Nat → Nat) (rb : Nat → Nat) (xt : Nat → Nat) (kp : Int32) (h1 : t < 12) : CI l yX3_of wsX3_of rmX3_of E [.ref (ox 0), .int (nI t), .int 4] [(ox 0, noO ox rr rk rt rb xt kp), (rr 0, avO rr r.1 r.2.1), (rr 1, arI E 12 r.2.2.1), (rr 2, arI E 12 r.2.2.2.1), (rr 3, arI E 12 r.2.2.2.2.1), (rr 4, arI E 96 r.2.2.2.2.2)] [(ox 0, noO ox rr rk rt rb xt kp), (rr 0, avO rr r.1 r.2.1), (rr 1, arI E 12 r.2.2.1), (rr 2, arI E 12 r.2.2.2.1), (rr 3, arI E 12 r.2.2.2.2.1), (rr 4, arI E 96 r.2.2.2.2.2)] (bI (av_hear r t false)) := by
  refine CI.of (own := RX3) (cc := cX3_of) (nL := 3) (rt := (some .int)) (by decide) rfl rfl (Nat.le_of_ble_eq_true rfl) (fun X hX hQ => ?_)
  show G E X 3 0 [(0, .ref (ox 0)), (1, .int (nI t)), (2, .int 4)] [] [(ox 0, noO ox rr rk rt rb xt kp), (rr 0, avO rr r.1 r.2.1), (rr 1, arI E 12 r.2.2.1), (rr 2, arI E 12 r.2.2.2.1), (rr 3, arI E 12 r.2.2.2.2.1), (rr 4, arI E 96 r.2.2.2.2.2)]
  refine G.iload_n hX 1 rfl dX3_of_0 ?_
  refine G.s0i hX (As := [.int (nI t)]) (st := []) (c_X3_isTreen _ E (x := t) (h1 := by omega)) gX3_of_X3_isTree cp_X3_isTree (by decide) rfl rfl (Nat.le_of_ble_eq_true rfl) dX3_of_1 ?_
  refine G.if_ne hX (tgt := 13) (by decide) dX3_of_4 (fun _ => ?_) (fun c4 => absurd c4 (by decide))
  refine G.iload_n hX 2 rfl dX3_of_13 ?_
  refine G.tin hX (tgt := 90) dX3_of_14 (by decide) (by decide) rfl (by decide) ?_
  refine G.aload_n hX 0 rfl dX3_of_90 ?_
  refine G.get hX inc_X3_of_3 0 rfl rfl 0 (by decide) (by decide +kernel) rfl dX3_of_91 ?_
  refine G.iload_n hX 1 rfl dX3_of_94 ?_
  refine G.iconst hX (v := 0) (by decide) dX3_of_95 ?_
  refine G.vi hX (As := [.int (nI t), .int 0]) (st := []) (wr := [(ox 0, noO ox rr rk rt rb xt kp)]) (wf := [(ox 0, noO ox rr rk rt rb xt kp), (rr 0, avO rr r.1 r.2.1), (rr 1, arI E 12 r.2.2.1), (rr 2, arI E 12 r.2.2.2.1), (rr 3, arI E 12 r.2.2.2.2.1), (rr 4, arI E 96 r.2.2.2.2.2)]) (q0 := 0) (ci := 0) rfl rfl (c_X0_hears _ E (q := r) (t := t) (b := false) (a := rr) (h1 := by omega)) gX3_of_X0_hears cp_X0_hears (by decide) [1, 2, 3, 4, 5] [0] [0, 1, 2, 3, 4, 5] ⟨rfl, rfl, by decide, rfl⟩ rfl rfl (Nat.le_of_ble_eq_true rfl) dX3_of_96 ?_
  refine G.b_eq hX (tgt := 106) (by decide) dX3_of_99 (fun c99 => ?_) (fun c99 => ?_)
  · refine G.iconst hX (v := 0) (by decide) dX3_of_106 ?_
    exact G.iret hX hQ dX3_of_107 (by first | rfl | (simp only [bI, c99, ↓reduceIte, Bool.not_true, Bool.not_false, Bool.and_true, Bool.true_and, Bool.and_false, Bool.false_and, Bool.or_true, Bool.true_or, Bool.or_false, Bool.false_or, decide_true, decide_false, not_true_eq_false, not_false_eq_true, Bool.false_eq_true, Bool.true_eq_false]; done) | (simp only [bI, c99, ↓reduceIte, Bool.not_true, Bool.not_false, Bool.and_true, Bool.true_and, Bool.and_false, Bool.false_and, Bool.or_true, Bool.true_or, Bool.or_false, Bool.false_or, decide_true, decide_false, not_true_eq_false, not_false_eq_true, Bool.false_eq_true, Bool.true_eq_false]; rfl) | (simp [bI, c99]; done)) (by rfl)
  · refine G.iconst hX (v := 1) (by decide) dX3_of_102 ?_
    refine G.goto hX (tgt := 107) (by decide) dX3_of_103 ?_
    exact G.iret hX hQ dX3_of_107 (by first | rfl | (simp only [bI, c99, ↓reduceIte, Bool.not_true, Bool.not_false, Bool.and_true, Bool.true_and, Bool.and_false, Bool.false_and, Bool.or_true, Bool.true_or, Bool.or_false, Bool.false_or, decide_true, decide_false, not_true_eq_false, not_false_eq_true, Bool.false_eq_true, Bool.true_eq_false]; done) | (simp only [bI, c99, ↓reduceIte, Bool.not_true, Bool.not_false, Bool.and_true, Bool.true_and, Bool.and_false, Bool.false_and, Bool.or_true, Bool.true_or, Bool.or_false, Bool.false_or, decide_true, decide_false, not_true_eq_false, not_false_eq_true, Bool.false_eq_true, Bool.true_eq_false]; rfl) | (simp [bI, c99]; done)) (by rfl)
set_option maxHeartbeats 4000000 in
set_option maxRecDepth 100000 in
theorem c_X3_of5 (l : Launch) (E : EV) (t : Nat) (r : AV) (ox : Nat → Nat) (rr : Nat → Nat) (rk : Nat → Nat) (rt : Nat → Nat) (rb : Nat → Nat) (xt : Nat → Nat) (kp : Int32) (h1 : t < 12) : CI l yX3_of wsX3_of rmX3_of E [.ref (ox 0), .int (nI t), .int 5] [(ox 0, noO ox rr rk rt rb xt kp), (rr 0, avO rr r.1 r.2.1), (rr 1, arI E 12 r.2.2.1), (rr 2, arI E 12 r.2.2.2.1), (rr 3, arI E 12 r.2.2.2.2.1), (rr 4, arI E 96 r.2.2.2.2.2)] [(ox 0, noO ox rr rk rt rb xt kp), (rr 0, avO rr r.1 r.2.1), (rr 1, arI E 12 r.2.2.1), (rr 2, arI E 12 r.2.2.2.1), (rr 3, arI E 12 r.2.2.2.2.1), (rr 4, arI E 96 r.2.2.2.2.2)] (r.2.2.2.2.1 t) := by
  refine CI.of (own := RX3) (cc := cX3_of) (nL := 3) (rt := (some .int)) (by decide) rfl rfl (Nat.le_of_ble_eq_true rfl) (fun X hX hQ => ?_)
  show G E X 3 0 [(0, .ref (ox 0)), (1, .int (nI t)), (2, .int 5)] [] [(ox 0, noO ox rr rk rt rb xt kp), (rr 0, avO rr r.1 r.2.1), (rr 1, arI E 12 r.2.2.1), (rr 2, arI E 12 r.2.2.2.1), (rr 3, arI E 12 r.2.2.2.2.1), (rr 4, arI E 96 r.2.2.2.2.2)]
  refine G.iload_n hX 1 rfl dX3_of_0 ?_
  refine G.s0i hX (As := [.int (nI t)]) (st := []) (c_X3_isTreen _ E (x := t) (h1 := by omega)) gX3_of_X3_isTree cp_X3_isTree (by decide) rfl rfl (Nat.le_of_ble_eq_true rfl) dX3_of_1 ?_
  refine G.if_ne hX (tgt := 13) (by decide) dX3_of_4 (fun _ => ?_) (fun c4 => absurd c4 (by decide))
  refine G.iload_n hX 2 rfl dX3_of_13 ?_
  refine G.tin hX (tgt := 108) dX3_of_14 (by decide) (by decide) rfl (by decide) ?_
  refine G.aload_n hX 0 rfl dX3_of_108 ?_
  refine G.get hX inc_X3_of_3 0 rfl rfl 0 (by decide) (by decide +kernel) rfl dX3_of_109 ?_
  refine G.get hX inc_X3_of_0 1 rfl rfl 4 (by decide) (by decide +kernel) rfl dX3_of_112 ?_
  refine G.iload_n hX 1 rfl dX3_of_115 ?_
  refine G.iald hX (j := t) 4 rfl (by omega) (by omega) dX3_of_116 ?_
  exact G.iret hX hQ dX3_of_117 (by rfl) (by rfl)
abbrev rmX3_since : Room := { frames := 1, cells := 0, slots := 0, locals := 22 }
theorem cp_X3_since : CP yX3_since RX3 wsX3_since 3 2 rmX3_since := ⟨⟨_, _, _, rfl⟩, rfl, rfl, by decide +kernel⟩
theorem inc_X3_since_3 : ∀ w ∈ u_ws RX3 TX3 9, w ∈ wsX3_since := by decide +kernel
set_option maxHeartbeats 4000000 in
set_option maxRecDepth 100000 in
theorem c_X3_sincebad (l : Launch) (E : EV) (x : Int32) (y : Int32) (ox : Nat → Nat) (rr : Nat → Nat) (rk : Nat → Nat) (rt : Nat → Nat) (rb : Nat → Nat) (xt : Nat → Nat) (kp : Int32) (fo : Nat → Int32) (h1 : (cIn 12 x && cIn 8 y) = false) : CI l yX3_since wsX3_since rmX3_since E [.ref (ox 0), .int x, .int y] [(ox 0, noO ox rr rk rt rb xt kp), (ox 3, arI E 7 fo)] [(ox 0, noO ox rr rk rt rb xt kp), (ox 3, arI E 7 (upd fo 0 (fo 0 + 1)))] ((-1000000001)) := by
  refine CI.of (own := RX3) (cc := cX3_since) (nL := 3) (rt := (some .int)) (by decide) rfl rfl (Nat.le_of_ble_eq_true rfl) (fun X hX hQ => ?_)
  show G E X 3 0 [(0, .ref (ox 0)), (1, .int x), (2, .int y)] [] [(ox 0, noO ox rr rk rt rb xt kp), (ox 3, arI E 7 fo)]
  refine G.iload_n hX 1 rfl dX3_since_0 ?_
  refine G.s0i hX (As := [.int x]) (st := []) (c_X3_isTree _ E (x := x) ) gX3_since_X3_isTree cp_X3_isTree (by decide) rfl rfl (Nat.le_of_ble_eq_true rfl) dX3_since_1 ?_
  refine G.b_eq hX (tgt := 14) (by decide) dX3_since_4 (fun c4 => ?_) (fun c4 => ?_)
  · refine G.aload_n hX 0 rfl dX3_since_14 ?_
    refine G.iconst hX (v := 0) (by decide) dX3_since_15 ?_
    refine G.vi hX (As := [.int 0]) (st := []) (wr := []) (wf := [(ox 0, noO ox rr rk rt rb xt kp), (ox 3, arI E 7 (upd fo 0 (fo 0 + 1)))]) (q0 := 0) (ci := 3) rfl rfl (c_X3_finding0 _ E (ox := ox) (rr := rr) (rk := rk) (rt := rt) (rb := rb) (xt := xt) (kp := kp) (fo := fo) ) gX3_since_X3_finding cp_X3_finding (by decide) [0, 1] [] [0, 1] ⟨rfl, rfl, by decide, rfl⟩ rfl rfl (Nat.le_of_ble_eq_true rfl) dX3_since_16 ?_
    exact G.iret hX hQ dX3_since_19 (by rfl) (by rfl)
  · refine G.iload_n hX 2 rfl dX3_since_7 ?_
    refine G.s0i hX (As := [.int y]) (st := []) (c_X3_isMessage _ E (x := y) ) gX3_since_X3_isMessage cp_X3_isMessage (by decide) rfl rfl (Nat.le_of_ble_eq_true rfl) dX3_since_8 ?_
    refine G.b_ne hX (tgt := 20) (by decide) dX3_since_11 (fun c11 => ?_) (fun c11 => ?_)
    · exact absurd h1 (by simp [cTo, cYe, c4, c11])
    · refine G.aload_n hX 0 rfl dX3_since_14 ?_
      refine G.iconst hX (v := 0) (by decide) dX3_since_15 ?_
      refine G.vi hX (As := [.int 0]) (st := []) (wr := []) (wf := [(ox 0, noO ox rr rk rt rb xt kp), (ox 3, arI E 7 (upd fo 0 (fo 0 + 1)))]) (q0 := 0) (ci := 3) rfl rfl (c_X3_finding0 _ E (ox := ox) (rr := rr) (rk := rk) (rt := rt) (rb := rb) (xt := xt) (kp := kp) (fo := fo) ) gX3_since_X3_finding cp_X3_finding (by decide) [0, 1] [] [0, 1] ⟨rfl, rfl, by decide, rfl⟩ rfl rfl (Nat.le_of_ble_eq_true rfl) dX3_since_16 ?_
      exact G.iret hX hQ dX3_since_19 (by rfl) (by rfl)
set_option maxHeartbeats 4000000 in
set_option maxRecDepth 100000 in
theorem c_X3_sincek (l : Launch) (E : EV) (t : Nat) (m : Nat) (r : AV) (ox : Nat → Nat) (rr : Nat → Nat) (rk : Nat → Nat) (rt : Nat → Nat) (rb : Nat → Nat) (xt : Nat → Nat) (kp : Int32) (h1 : t < 12) (h2 : m < 8) (h3 : av_k r t m = true) : CI l yX3_since wsX3_since rmX3_since E [.ref (ox 0), .int (nI t), .int (nI m)] [(ox 0, noO ox rr rk rt rb xt kp), (rr 0, avO rr r.1 r.2.1), (rr 1, arI E 12 r.2.2.1), (rr 2, arI E 12 r.2.2.2.1), (rr 3, arI E 12 r.2.2.2.2.1), (rr 4, arI E 96 r.2.2.2.2.2)] [(ox 0, noO ox rr rk rt rb xt kp), (rr 0, avO rr r.1 r.2.1), (rr 1, arI E 12 r.2.2.1), (rr 2, arI E 12 r.2.2.2.1), (rr 3, arI E 12 r.2.2.2.2.1), (rr 4, arI E 96 r.2.2.2.2.2)] (r.2.2.2.2.2 (t * 8 + m)) := by
  refine CI.of (own := RX3) (cc := cX3_since) (nL := 3) (rt := (some .int)) (by decide) rfl rfl (Nat.le_of_ble_eq_true rfl) (fun X hX hQ => ?_)
  show G E X 3 0 [(0, .ref (ox 0)), (1, .int (nI t)), (2, .int (nI m))] [] [(ox 0, noO ox rr rk rt rb xt kp), (rr 0, avO rr r.1 r.2.1), (rr 1, arI E 12 r.2.2.1), (rr 2, arI E 12 r.2.2.2.1), (rr 3, arI E 12 r.2.2.2.2.1), (rr 4, arI E 96 r.2.2.2.2.2)]
  refine G.iload_n hX 1 rfl dX3_since_0 ?_
  refine G.s0i hX (As := [.int (nI t)]) (st := []) (c_X3_isTreen _ E (x := t) (h1 := by omega)) gX3_since_X3_isTree cp_X3_isTree (by decide) rfl rfl (Nat.le_of_ble_eq_true rfl) dX3_since_1 ?_
  refine G.if_eq hX (tgt := 14) (by decide) dX3_since_4 (fun c4 => absurd c4 (by decide)) (fun _ => ?_)
  refine G.iload_n hX 2 rfl dX3_since_7 ?_
  refine G.s0i hX (As := [.int (nI m)]) (st := []) (c_X3_isMessagen _ E (x := m) (h1 := by omega)) gX3_since_X3_isMessage cp_X3_isMessage (by decide) rfl rfl (Nat.le_of_ble_eq_true rfl) dX3_since_8 ?_
  refine G.if_ne hX (tgt := 20) (by decide) dX3_since_11 (fun _ => ?_) (fun c11 => absurd c11 (by decide))
  refine G.aload_n hX 0 rfl dX3_since_20 ?_
  refine G.get hX inc_X3_since_3 0 rfl rfl 0 (by decide) (by decide +kernel) rfl dX3_since_21 ?_
  refine G.iload_n hX 1 rfl dX3_since_24 ?_
  refine G.iload_n hX 2 rfl dX3_since_25 ?_
  refine G.vi hX (As := [.int (nI t), .int (nI m)]) (st := []) (wr := [(ox 0, noO ox rr rk rt rb xt kp)]) (wf := [(ox 0, noO ox rr rk rt rb xt kp), (rr 0, avO rr r.1 r.2.1), (rr 1, arI E 12 r.2.2.1), (rr 2, arI E 12 r.2.2.2.1), (rr 3, arI E 12 r.2.2.2.2.1), (rr 4, arI E 96 r.2.2.2.2.2)]) (q0 := 0) (ci := 0) rfl rfl (c_X0_knows _ E (q := r) (t := t) (m := m) (a := rr) (h1 := by omega) (h2 := by omega)) gX3_since_X0_knows cp_X0_knows (by decide) [1, 2, 3, 4, 5] [0] [0, 1, 2, 3, 4, 5] ⟨rfl, rfl, by decide, rfl⟩ rfl rfl (Nat.le_of_ble_eq_true rfl) dX3_since_26 ?_
  refine G.b_ne hX (tgt := 38) (by decide) dX3_since_29 (fun c29 => ?_) (fun c29 => ?_)
  · refine G.aload_n hX 0 rfl dX3_since_38 ?_
    refine G.get hX inc_X3_since_3 0 rfl rfl 0 (by decide) (by decide +kernel) rfl dX3_since_39 ?_
    refine G.iload_n hX 1 rfl dX3_since_42 ?_
    refine G.iload_n hX 2 rfl dX3_since_43 ?_
    refine G.vi hX (As := [.int (nI t), .int (nI m)]) (st := []) (wr := [(ox 0, noO ox rr rk rt rb xt kp)]) (wf := [(ox 0, noO ox rr rk rt rb xt kp), (rr 0, avO rr r.1 r.2.1), (rr 1, arI E 12 r.2.2.1), (rr 2, arI E 12 r.2.2.2.1), (rr 3, arI E 12 r.2.2.2.2.1), (rr 4, arI E 96 r.2.2.2.2.2)]) (q0 := 0) (ci := 0) rfl rfl (c_X0_learntWhen _ E (q := r) (t := t) (m := m) (a := rr) (h1 := by omega) (h2 := by omega)) gX3_since_X0_learntWhen cp_X0_learntWhen (by decide) [1, 2, 3, 4, 5] [0] [0, 1, 2, 3, 4, 5] ⟨rfl, rfl, by decide, rfl⟩ rfl rfl (Nat.le_of_ble_eq_true rfl) dX3_since_44 ?_
    exact G.iret hX hQ dX3_since_47 (by rfl) (by rfl)
  · exact absurd h3 (by simp [c29])
set_option maxHeartbeats 4000000 in
set_option maxRecDepth 100000 in
theorem c_X3_sinceu (l : Launch) (E : EV) (t : Nat) (m : Nat) (r : AV) (ox : Nat → Nat) (rr : Nat → Nat) (rk : Nat → Nat) (rt : Nat → Nat) (rb : Nat → Nat) (xt : Nat → Nat) (kp : Int32) (fo : Nat → Int32) (h1 : t < 12) (h2 : m < 8) (h3 : av_k r t m = false) : CI l yX3_since wsX3_since rmX3_since E [.ref (ox 0), .int (nI t), .int (nI m)] [(ox 0, noO ox rr rk rt rb xt kp), (rr 0, avO rr r.1 r.2.1), (rr 1, arI E 12 r.2.2.1), (rr 2, arI E 12 r.2.2.2.1), (rr 3, arI E 12 r.2.2.2.2.1), (rr 4, arI E 96 r.2.2.2.2.2), (ox 3, arI E 7 fo)] [(ox 0, noO ox rr rk rt rb xt kp), (rr 0, avO rr r.1 r.2.1), (rr 1, arI E 12 r.2.2.1), (rr 2, arI E 12 r.2.2.2.1), (rr 3, arI E 12 r.2.2.2.2.1), (rr 4, arI E 96 r.2.2.2.2.2), (ox 3, arI E 7 (upd fo 3 (fo 3 + 1)))] ((-1000000004)) := by
  refine CI.of (own := RX3) (cc := cX3_since) (nL := 3) (rt := (some .int)) (by decide) rfl rfl (Nat.le_of_ble_eq_true rfl) (fun X hX hQ => ?_)
  show G E X 3 0 [(0, .ref (ox 0)), (1, .int (nI t)), (2, .int (nI m))] [] [(ox 0, noO ox rr rk rt rb xt kp), (rr 0, avO rr r.1 r.2.1), (rr 1, arI E 12 r.2.2.1), (rr 2, arI E 12 r.2.2.2.1), (rr 3, arI E 12 r.2.2.2.2.1), (rr 4, arI E 96 r.2.2.2.2.2), (ox 3, arI E 7 fo)]
  refine G.iload_n hX 1 rfl dX3_since_0 ?_
  refine G.s0i hX (As := [.int (nI t)]) (st := []) (c_X3_isTreen _ E (x := t) (h1 := by omega)) gX3_since_X3_isTree cp_X3_isTree (by decide) rfl rfl (Nat.le_of_ble_eq_true rfl) dX3_since_1 ?_
  refine G.if_eq hX (tgt := 14) (by decide) dX3_since_4 (fun c4 => absurd c4 (by decide)) (fun _ => ?_)
  refine G.iload_n hX 2 rfl dX3_since_7 ?_
  refine G.s0i hX (As := [.int (nI m)]) (st := []) (c_X3_isMessagen _ E (x := m) (h1 := by omega)) gX3_since_X3_isMessage cp_X3_isMessage (by decide) rfl rfl (Nat.le_of_ble_eq_true rfl) dX3_since_8 ?_
  refine G.if_ne hX (tgt := 20) (by decide) dX3_since_11 (fun _ => ?_) (fun c11 => absurd c11 (by decide))
  refine G.aload_n hX 0 rfl dX3_since_20 ?_
  refine G.get hX inc_X3_since_3 0 rfl rfl 0 (by decide) (by decide +kernel) rfl dX3_since_21 ?_
  refine G.iload_n hX 1 rfl dX3_since_24 ?_
  refine G.iload_n hX 2 rfl dX3_since_25 ?_
  refine G.vi hX (As := [.int (nI t), .int (nI m)]) (st := []) (wr := [(ox 0, noO ox rr rk rt rb xt kp), (ox 3, arI E 7 fo)]) (wf := [(ox 0, noO ox rr rk rt rb xt kp), (rr 0, avO rr r.1 r.2.1), (rr 1, arI E 12 r.2.2.1), (rr 2, arI E 12 r.2.2.2.1), (rr 3, arI E 12 r.2.2.2.2.1), (rr 4, arI E 96 r.2.2.2.2.2), (ox 3, arI E 7 fo)]) (q0 := 0) (ci := 0) rfl rfl (c_X0_knows _ E (q := r) (t := t) (m := m) (a := rr) (h1 := by omega) (h2 := by omega)) gX3_since_X0_knows cp_X0_knows (by decide) [1, 2, 3, 4, 5] [0, 6] [0, 2, 3, 4, 5, 6, 1] ⟨rfl, rfl, by decide, rfl⟩ rfl rfl (Nat.le_of_ble_eq_true rfl) dX3_since_26 ?_
  refine G.b_ne hX (tgt := 38) (by decide) dX3_since_29 (fun c29 => ?_) (fun c29 => ?_)
  · exact absurd h3 (by simp [c29])
  · refine G.aload_n hX 0 rfl dX3_since_32 ?_
    refine G.iconst hX (v := 3) (by decide) dX3_since_33 ?_
    refine G.vi hX (As := [.int 3]) (st := []) (wr := [(rr 0, avO rr r.1 r.2.1), (rr 1, arI E 12 r.2.2.1), (rr 2, arI E 12 r.2.2.2.1), (rr 3, arI E 12 r.2.2.2.2.1), (rr 4, arI E 96 r.2.2.2.2.2)]) (wf := [(ox 0, noO ox rr rk rt rb xt kp), (rr 0, avO rr r.1 r.2.1), (rr 1, arI E 12 r.2.2.1), (rr 2, arI E 12 r.2.2.2.1), (rr 3, arI E 12 r.2.2.2.2.1), (rr 4, arI E 96 r.2.2.2.2.2), (ox 3, arI E 7 (upd fo 3 (fo 3 + 1)))]) (q0 := 0) (ci := 3) rfl rfl (c_X3_finding3 _ E (ox := ox) (rr := rr) (rk := rk) (rt := rt) (rb := rb) (xt := xt) (kp := kp) (fo := fo) ) gX3_since_X3_finding cp_X3_finding (by decide) [0, 6] [1, 2, 3, 4, 5] [5, 0, 1, 2, 3, 4, 6] ⟨rfl, rfl, by decide, rfl⟩ rfl rfl (Nat.le_of_ble_eq_true rfl) dX3_since_34 ?_
    exact G.iret hX hQ dX3_since_37 (by rfl) (by rfl)
abbrev rmX3_plant : Room := { frames := 1, cells := 0, slots := 0, locals := 23 }
theorem cp_X3_plant : CP yX3_plant RX3 wsX3_plant 4 2 rmX3_plant := ⟨⟨_, _, _, rfl⟩, rfl, rfl, by decide +kernel⟩
theorem inc_X3_plant_0 : ∀ w ∈ u_ws RX0 TX0 6, w ∈ wsX3_plant := by decide +kernel
theorem inc_X3_plant_3 : ∀ w ∈ u_ws RX3 TX3 9, w ∈ wsX3_plant := by decide +kernel
set_option maxHeartbeats 4000000 in
set_option maxRecDepth 100000 in
theorem c_X3_plantbad (l : Launch) (E : EV) (x : Int32) (y : Int32) (ox : Nat → Nat) (rr : Nat → Nat) (rk : Nat → Nat) (rt : Nat → Nat) (rb : Nat → Nat) (xt : Nat → Nat) (kp : Int32) (fo : Nat → Int32) (h1 : (cIn 12 x && cIn 6 y) = false) : CI l yX3_plant wsX3_plant rmX3_plant E [.ref (ox 0), .int x, .int y] [(ox 0, noO ox rr rk rt rb xt kp), (ox 3, arI E 7 fo)] [(ox 0, noO ox rr rk rt rb xt kp), (ox 3, arI E 7 (upd fo 0 (fo 0 + 1)))] ((-1000000001)) := by
  refine CI.of (own := RX3) (cc := cX3_plant) (nL := 4) (rt := (some .int)) (by decide) rfl rfl (Nat.le_of_ble_eq_true rfl) (fun X hX hQ => ?_)
  show G E X 4 0 [(0, .ref (ox 0)), (1, .int x), (2, .int y)] [] [(ox 0, noO ox rr rk rt rb xt kp), (ox 3, arI E 7 fo)]
  refine G.iload_n hX 1 rfl dX3_plant_0 ?_
  refine G.s0i hX (As := [.int x]) (st := []) (c_X3_isTree _ E (x := x) ) gX3_plant_X3_isTree cp_X3_isTree (by decide) rfl rfl (Nat.le_of_ble_eq_true rfl) dX3_plant_1 ?_
  refine G.b_eq hX (tgt := 14) (by decide) dX3_plant_4 (fun c4 => ?_) (fun c4 => ?_)
  · refine G.aload_n hX 0 rfl dX3_plant_14 ?_
    refine G.iconst hX (v := 0) (by decide) dX3_plant_15 ?_
    refine G.vi hX (As := [.int 0]) (st := []) (wr := []) (wf := [(ox 0, noO ox rr rk rt rb xt kp), (ox 3, arI E 7 (upd fo 0 (fo 0 + 1)))]) (q0 := 0) (ci := 3) rfl rfl (c_X3_finding0 _ E (ox := ox) (rr := rr) (rk := rk) (rt := rt) (rb := rb) (xt := xt) (kp := kp) (fo := fo) ) gX3_plant_X3_finding cp_X3_finding (by decide) [0, 1] [] [0, 1] ⟨rfl, rfl, by decide, rfl⟩ rfl rfl (Nat.le_of_ble_eq_true rfl) dX3_plant_16 ?_
    exact G.iret hX hQ dX3_plant_19 (by rfl) (by rfl)
  · refine G.iload_n hX 2 rfl dX3_plant_7 ?_
    refine G.s0i hX (As := [.int y]) (st := []) (c_X3_isKind _ E (x := y) ) gX3_plant_X3_isKind cp_X3_isKind (by decide) rfl rfl (Nat.le_of_ble_eq_true rfl) dX3_plant_8 ?_
    refine G.b_ne hX (tgt := 20) (by decide) dX3_plant_11 (fun c11 => ?_) (fun c11 => ?_)
    · exact absurd h1 (by simp [cTo, cYe, c4, c11])
    · refine G.aload_n hX 0 rfl dX3_plant_14 ?_
      refine G.iconst hX (v := 0) (by decide) dX3_plant_15 ?_
      refine G.vi hX (As := [.int 0]) (st := []) (wr := []) (wf := [(ox 0, noO ox rr rk rt rb xt kp), (ox 3, arI E 7 (upd fo 0 (fo 0 + 1)))]) (q0 := 0) (ci := 3) rfl rfl (c_X3_finding0 _ E (ox := ox) (rr := rr) (rk := rk) (rt := rt) (rb := rb) (xt := xt) (kp := kp) (fo := fo) ) gX3_plant_X3_finding cp_X3_finding (by decide) [0, 1] [] [0, 1] ⟨rfl, rfl, by decide, rfl⟩ rfl rfl (Nat.le_of_ble_eq_true rfl) dX3_plant_16 ?_
      exact G.iret hX hQ dX3_plant_19 (by rfl) (by rfl)
set_option maxHeartbeats 4000000 in
set_option maxRecDepth 100000 in
theorem c_X3_plantok (l : Launch) (E : EV) (t : Nat) (k : Nat) (r : AV) (ox : Nat → Nat) (rr : Nat → Nat) (rk : Nat → Nat) (rt : Nat → Nat) (rb : Nat → Nat) (xt : Nat → Nat) (kp : Int32) (h1 : t < 12) (h2 : k < 6) : CI l yX3_plant wsX3_plant rmX3_plant E [.ref (ox 0), .int (nI t), .int (nI k)] [(ox 0, noO ox rr rk rt rb xt kp), (rr 0, avO rr r.1 r.2.1), (rr 1, arI E 12 r.2.2.1), (rr 2, arI E 12 r.2.2.2.1), (rr 3, arI E 12 r.2.2.2.2.1), (rr 4, arI E 96 r.2.2.2.2.2)] [(ox 0, noO ox rr rk rt rb xt kp), (rr 0, avO rr ((av_anew r t (nI k) 0).1) ((av_anew r t (nI k) 0).2.1)), (rr 1, arI E 12 ((av_anew r t (nI k) 0).2.2.1)), (rr 2, arI E 12 ((av_anew r t (nI k) 0).2.2.2.1)), (rr 3, arI E 12 ((av_anew r t (nI k) 0).2.2.2.2.1)), (rr 4, arI E 96 ((av_anew r t (nI k) 0).2.2.2.2.2))] (r.2.2.1 t) := by
  refine CI.of (own := RX3) (cc := cX3_plant) (nL := 4) (rt := (some .int)) (by decide) rfl rfl (Nat.le_of_ble_eq_true rfl) (fun X hX hQ => ?_)
  show G E X 4 0 [(0, .ref (ox 0)), (1, .int (nI t)), (2, .int (nI k))] [] [(ox 0, noO ox rr rk rt rb xt kp), (rr 0, avO rr r.1 r.2.1), (rr 1, arI E 12 r.2.2.1), (rr 2, arI E 12 r.2.2.2.1), (rr 3, arI E 12 r.2.2.2.2.1), (rr 4, arI E 96 r.2.2.2.2.2)]
  refine G.iload_n hX 1 rfl dX3_plant_0 ?_
  refine G.s0i hX (As := [.int (nI t)]) (st := []) (c_X3_isTreen _ E (x := t) (h1 := by omega)) gX3_plant_X3_isTree cp_X3_isTree (by decide) rfl rfl (Nat.le_of_ble_eq_true rfl) dX3_plant_1 ?_
  refine G.if_eq hX (tgt := 14) (by decide) dX3_plant_4 (fun c4 => absurd c4 (by decide)) (fun _ => ?_)
  refine G.iload_n hX 2 rfl dX3_plant_7 ?_
  refine G.s0i hX (As := [.int (nI k)]) (st := []) (c_X3_isKindn _ E (x := k) (h1 := by omega)) gX3_plant_X3_isKind cp_X3_isKind (by decide) rfl rfl (Nat.le_of_ble_eq_true rfl) dX3_plant_8 ?_
  refine G.if_ne hX (tgt := 20) (by decide) dX3_plant_11 (fun _ => ?_) (fun c11 => absurd c11 (by decide))
  refine G.aload_n hX 0 rfl dX3_plant_20 ?_
  refine G.get hX inc_X3_plant_3 0 rfl rfl 0 (by decide) (by decide +kernel) rfl dX3_plant_21 ?_
  refine G.get hX inc_X3_plant_0 1 rfl rfl 2 (by decide) (by decide +kernel) rfl dX3_plant_24 ?_
  refine G.iload_n hX 1 rfl dX3_plant_27 ?_
  refine G.iald hX (j := t) 2 rfl (by omega) (by omega) dX3_plant_28 ?_
  refine G.istore_n hX (lv' := [(3, .int (r.2.2.1 t)), (0, .ref (ox 0)), (1, .int (nI t)), (2, .int (nI k))]) rfl (by decide) rfl dX3_plant_29 ?_
  refine G.aload_n hX 1 rfl dX3_plant_30 ?_
  refine G.get hX inc_X3_plant_3 0 rfl rfl 0 (by decide) (by decide +kernel) rfl dX3_plant_31 ?_
  refine G.iload_n hX 2 rfl dX3_plant_34 ?_
  refine G.iload_n hX 3 rfl dX3_plant_35 ?_
  refine G.iconst hX (v := 0) (by decide) dX3_plant_36 ?_
  refine G.vv hX (As := [.int (nI t), .int (nI k), .int 0]) (st := []) (wr := [(ox 0, noO ox rr rk rt rb xt kp)]) (wf := [(ox 0, noO ox rr rk rt rb xt kp), (rr 0, avO rr ((av_anew r t (nI k) 0).1) ((av_anew r t (nI k) 0).2.1)), (rr 1, arI E 12 ((av_anew r t (nI k) 0).2.2.1)), (rr 2, arI E 12 ((av_anew r t (nI k) 0).2.2.2.1)), (rr 3, arI E 12 ((av_anew r t (nI k) 0).2.2.2.2.1)), (rr 4, arI E 96 ((av_anew r t (nI k) 0).2.2.2.2.2))]) (q0 := 0) (ci := 0) rfl rfl (c_X0_setAnew _ E (q := r) (t := t) (k := nI k) (ag := 0) (a := rr) (h1 := by omega)) gX3_plant_X0_setAnew cp_X0_setAnew (by decide) [1, 2, 3, 4, 5] [0] [0, 1, 2, 3, 4, 5] ⟨rfl, rfl, by decide, rfl⟩ rfl rfl (Nat.le_of_ble_eq_true rfl) dX3_plant_37 ?_
  refine G.iload_n hX 0 rfl dX3_plant_40 ?_
  exact G.iret hX hQ dX3_plant_41 (by rfl) (by rfl)
abbrev rmX3_turn : Room := { frames := 1, cells := 0, slots := 0, locals := 21 }
theorem cp_X3_turn : CP yX3_turn RX3 wsX3_turn 4 2 rmX3_turn := ⟨⟨_, _, _, rfl⟩, rfl, rfl, by decide +kernel⟩
theorem inc_X3_turn_0 : ∀ w ∈ u_ws RX0 TX0 6, w ∈ wsX3_turn := by decide +kernel
theorem inc_X3_turn_3 : ∀ w ∈ u_ws RX3 TX3 9, w ∈ wsX3_turn := by decide +kernel
set_option maxHeartbeats 4000000 in
set_option maxRecDepth 100000 in
theorem c_X3_turnbad (l : Launch) (E : EV) (x : Int32) (y : Int32) (ox : Nat → Nat) (rr : Nat → Nat) (rk : Nat → Nat) (rt : Nat → Nat) (rb : Nat → Nat) (xt : Nat → Nat) (kp : Int32) (fo : Nat → Int32) (h1 : (cIn 12 x && cIn 6 y) = false) : CI l yX3_turn wsX3_turn rmX3_turn E [.ref (ox 0), .int x, .int y] [(ox 0, noO ox rr rk rt rb xt kp), (ox 3, arI E 7 fo)] [(ox 0, noO ox rr rk rt rb xt kp), (ox 3, arI E 7 (upd fo 0 (fo 0 + 1)))] ((-1000000001)) := by
  refine CI.of (own := RX3) (cc := cX3_turn) (nL := 4) (rt := (some .int)) (by decide) rfl rfl (Nat.le_of_ble_eq_true rfl) (fun X hX hQ => ?_)
  show G E X 4 0 [(0, .ref (ox 0)), (1, .int x), (2, .int y)] [] [(ox 0, noO ox rr rk rt rb xt kp), (ox 3, arI E 7 fo)]
  refine G.iload_n hX 1 rfl dX3_turn_0 ?_
  refine G.s0i hX (As := [.int x]) (st := []) (c_X3_isTree _ E (x := x) ) gX3_turn_X3_isTree cp_X3_isTree (by decide) rfl rfl (Nat.le_of_ble_eq_true rfl) dX3_turn_1 ?_
  refine G.b_eq hX (tgt := 14) (by decide) dX3_turn_4 (fun c4 => ?_) (fun c4 => ?_)
  · refine G.aload_n hX 0 rfl dX3_turn_14 ?_
    refine G.iconst hX (v := 0) (by decide) dX3_turn_15 ?_
    refine G.vi hX (As := [.int 0]) (st := []) (wr := []) (wf := [(ox 0, noO ox rr rk rt rb xt kp), (ox 3, arI E 7 (upd fo 0 (fo 0 + 1)))]) (q0 := 0) (ci := 3) rfl rfl (c_X3_finding0 _ E (ox := ox) (rr := rr) (rk := rk) (rt := rt) (rb := rb) (xt := xt) (kp := kp) (fo := fo) ) gX3_turn_X3_finding cp_X3_finding (by decide) [0, 1] [] [0, 1] ⟨rfl, rfl, by decide, rfl⟩ rfl rfl (Nat.le_of_ble_eq_true rfl) dX3_turn_16 ?_
    exact G.iret hX hQ dX3_turn_19 (by rfl) (by rfl)
  · refine G.iload_n hX 2 rfl dX3_turn_7 ?_
    refine G.s0i hX (As := [.int y]) (st := []) (c_X3_isKind _ E (x := y) ) gX3_turn_X3_isKind cp_X3_isKind (by decide) rfl rfl (Nat.le_of_ble_eq_true rfl) dX3_turn_8 ?_
    refine G.b_ne hX (tgt := 20) (by decide) dX3_turn_11 (fun c11 => ?_) (fun c11 => ?_)
    · exact absurd h1 (by simp [cTo, cYe, c4, c11])
    · refine G.aload_n hX 0 rfl dX3_turn_14 ?_
      refine G.iconst hX (v := 0) (by decide) dX3_turn_15 ?_
      refine G.vi hX (As := [.int 0]) (st := []) (wr := []) (wf := [(ox 0, noO ox rr rk rt rb xt kp), (ox 3, arI E 7 (upd fo 0 (fo 0 + 1)))]) (q0 := 0) (ci := 3) rfl rfl (c_X3_finding0 _ E (ox := ox) (rr := rr) (rk := rk) (rt := rt) (rb := rb) (xt := xt) (kp := kp) (fo := fo) ) gX3_turn_X3_finding cp_X3_finding (by decide) [0, 1] [] [0, 1] ⟨rfl, rfl, by decide, rfl⟩ rfl rfl (Nat.le_of_ble_eq_true rfl) dX3_turn_16 ?_
      exact G.iret hX hQ dX3_turn_19 (by rfl) (by rfl)
set_option maxHeartbeats 4000000 in
set_option maxRecDepth 100000 in
theorem c_X3_turnok (l : Launch) (E : EV) (t : Nat) (k : Nat) (r : AV) (ox : Nat → Nat) (rr : Nat → Nat) (rk : Nat → Nat) (rt : Nat → Nat) (rb : Nat → Nat) (xt : Nat → Nat) (kp : Int32) (h1 : t < 12) (h2 : k < 6) : CI l yX3_turn wsX3_turn rmX3_turn E [.ref (ox 0), .int (nI t), .int (nI k)] [(ox 0, noO ox rr rk rt rb xt kp), (rr 0, avO rr r.1 r.2.1), (rr 1, arI E 12 r.2.2.1), (rr 2, arI E 12 r.2.2.2.1), (rr 3, arI E 12 r.2.2.2.2.1), (rr 4, arI E 96 r.2.2.2.2.2)] [(ox 0, noO ox rr rk rt rb xt kp), (rr 0, avO rr ((av_kind r t (nI k)).1) ((av_kind r t (nI k)).2.1)), (rr 1, arI E 12 ((av_kind r t (nI k)).2.2.1)), (rr 2, arI E 12 ((av_kind r t (nI k)).2.2.2.1)), (rr 3, arI E 12 ((av_kind r t (nI k)).2.2.2.2.1)), (rr 4, arI E 96 ((av_kind r t (nI k)).2.2.2.2.2))] (r.2.2.1 t) := by
  refine CI.of (own := RX3) (cc := cX3_turn) (nL := 4) (rt := (some .int)) (by decide) rfl rfl (Nat.le_of_ble_eq_true rfl) (fun X hX hQ => ?_)
  show G E X 4 0 [(0, .ref (ox 0)), (1, .int (nI t)), (2, .int (nI k))] [] [(ox 0, noO ox rr rk rt rb xt kp), (rr 0, avO rr r.1 r.2.1), (rr 1, arI E 12 r.2.2.1), (rr 2, arI E 12 r.2.2.2.1), (rr 3, arI E 12 r.2.2.2.2.1), (rr 4, arI E 96 r.2.2.2.2.2)]
  refine G.iload_n hX 1 rfl dX3_turn_0 ?_
  refine G.s0i hX (As := [.int (nI t)]) (st := []) (c_X3_isTreen _ E (x := t) (h1 := by omega)) gX3_turn_X3_isTree cp_X3_isTree (by decide) rfl rfl (Nat.le_of_ble_eq_true rfl) dX3_turn_1 ?_
  refine G.if_eq hX (tgt := 14) (by decide) dX3_turn_4 (fun c4 => absurd c4 (by decide)) (fun _ => ?_)
  refine G.iload_n hX 2 rfl dX3_turn_7 ?_
  refine G.s0i hX (As := [.int (nI k)]) (st := []) (c_X3_isKindn _ E (x := k) (h1 := by omega)) gX3_turn_X3_isKind cp_X3_isKind (by decide) rfl rfl (Nat.le_of_ble_eq_true rfl) dX3_turn_8 ?_
  refine G.if_ne hX (tgt := 20) (by decide) dX3_turn_11 (fun _ => ?_) (fun c11 => absurd c11 (by decide))
  refine G.aload_n hX 0 rfl dX3_turn_20 ?_
  refine G.get hX inc_X3_turn_3 0 rfl rfl 0 (by decide) (by decide +kernel) rfl dX3_turn_21 ?_
  refine G.get hX inc_X3_turn_0 1 rfl rfl 2 (by decide) (by decide +kernel) rfl dX3_turn_24 ?_
  refine G.iload_n hX 1 rfl dX3_turn_27 ?_
  refine G.iald hX (j := t) 2 rfl (by omega) (by omega) dX3_turn_28 ?_
  refine G.istore_n hX (lv' := [(3, .int (r.2.2.1 t)), (0, .ref (ox 0)), (1, .int (nI t)), (2, .int (nI k))]) rfl (by decide) rfl dX3_turn_29 ?_
  refine G.aload_n hX 1 rfl dX3_turn_30 ?_
  refine G.get hX inc_X3_turn_3 0 rfl rfl 0 (by decide) (by decide +kernel) rfl dX3_turn_31 ?_
  refine G.get hX inc_X3_turn_0 1 rfl rfl 2 (by decide) (by decide +kernel) rfl dX3_turn_34 ?_
  refine G.iload_n hX 2 rfl dX3_turn_37 ?_
  refine G.iload_n hX 3 rfl dX3_turn_38 ?_
  refine G.iast hX (j := t) (ws' := [(ox 0, noO ox rr rk rt rb xt kp), (rr 0, avO rr r.1 r.2.1), (rr 1, arI E 12 (upd r.2.2.1 t (nI k))), (rr 2, arI E 12 r.2.2.2.1), (rr 3, arI E 12 r.2.2.2.2.1), (rr 4, arI E 96 r.2.2.2.2.2)]) 2 rfl (by omega) (by omega) rfl rfl dX3_turn_39 ?_
  refine G.iload_n hX 0 rfl dX3_turn_40 ?_
  exact G.iret hX hQ dX3_turn_41 (by rfl) (by rfl)
abbrev rmX3_age : Room := { frames := 1, cells := 0, slots := 0, locals := 21 }
theorem cp_X3_age : CP yX3_age RX3 wsX3_age 4 2 rmX3_age := ⟨⟨_, _, _, rfl⟩, rfl, rfl, by decide +kernel⟩
theorem inc_X3_age_0 : ∀ w ∈ u_ws RX0 TX0 6, w ∈ wsX3_age := by decide +kernel
theorem inc_X3_age_3 : ∀ w ∈ u_ws RX3 TX3 9, w ∈ wsX3_age := by decide +kernel
set_option maxHeartbeats 4000000 in
set_option maxRecDepth 100000 in
theorem c_X3_agebad (l : Launch) (E : EV) (x : Int32) (y : Int32) (ox : Nat → Nat) (rr : Nat → Nat) (rk : Nat → Nat) (rt : Nat → Nat) (rb : Nat → Nat) (xt : Nat → Nat) (kp : Int32) (fo : Nat → Int32) (h1 : (cIn 12 x && cAg y) = false) : CI l yX3_age wsX3_age rmX3_age E [.ref (ox 0), .int x, .int y] [(ox 0, noO ox rr rk rt rb xt kp), (ox 3, arI E 7 fo)] [(ox 0, noO ox rr rk rt rb xt kp), (ox 3, arI E 7 (upd fo 0 (fo 0 + 1)))] ((-1000000001)) := by
  refine CI.of (own := RX3) (cc := cX3_age) (nL := 4) (rt := (some .int)) (by decide) rfl rfl (Nat.le_of_ble_eq_true rfl) (fun X hX hQ => ?_)
  show G E X 4 0 [(0, .ref (ox 0)), (1, .int x), (2, .int y)] [] [(ox 0, noO ox rr rk rt rb xt kp), (ox 3, arI E 7 fo)]
  refine G.iload_n hX 1 rfl dX3_age_0 ?_
  refine G.s0i hX (As := [.int x]) (st := []) (c_X3_isTree _ E (x := x) ) gX3_age_X3_isTree cp_X3_isTree (by decide) rfl rfl (Nat.le_of_ble_eq_true rfl) dX3_age_1 ?_
  refine G.b_eq hX (tgt := 14) (by decide) dX3_age_4 (fun c4 => ?_) (fun c4 => ?_)
  · refine G.aload_n hX 0 rfl dX3_age_14 ?_
    refine G.iconst hX (v := 0) (by decide) dX3_age_15 ?_
    refine G.vi hX (As := [.int 0]) (st := []) (wr := []) (wf := [(ox 0, noO ox rr rk rt rb xt kp), (ox 3, arI E 7 (upd fo 0 (fo 0 + 1)))]) (q0 := 0) (ci := 3) rfl rfl (c_X3_finding0 _ E (ox := ox) (rr := rr) (rk := rk) (rt := rt) (rb := rb) (xt := xt) (kp := kp) (fo := fo) ) gX3_age_X3_finding cp_X3_finding (by decide) [0, 1] [] [0, 1] ⟨rfl, rfl, by decide, rfl⟩ rfl rfl (Nat.le_of_ble_eq_true rfl) dX3_age_16 ?_
    exact G.iret hX hQ dX3_age_19 (by rfl) (by rfl)
  · refine G.iload_n hX 2 rfl dX3_age_7 ?_
    refine G.s0i hX (As := [.int y]) (st := []) (c_X3_isAge _ E (x := y) ) gX3_age_X3_isAge cp_X3_isAge (by decide) rfl rfl (Nat.le_of_ble_eq_true rfl) dX3_age_8 ?_
    refine G.b_ne hX (tgt := 20) (by decide) dX3_age_11 (fun c11 => ?_) (fun c11 => ?_)
    · exact absurd h1 (by simp [cTo, cYe, c4, c11])
    · refine G.aload_n hX 0 rfl dX3_age_14 ?_
      refine G.iconst hX (v := 0) (by decide) dX3_age_15 ?_
      refine G.vi hX (As := [.int 0]) (st := []) (wr := []) (wf := [(ox 0, noO ox rr rk rt rb xt kp), (ox 3, arI E 7 (upd fo 0 (fo 0 + 1)))]) (q0 := 0) (ci := 3) rfl rfl (c_X3_finding0 _ E (ox := ox) (rr := rr) (rk := rk) (rt := rt) (rb := rb) (xt := xt) (kp := kp) (fo := fo) ) gX3_age_X3_finding cp_X3_finding (by decide) [0, 1] [] [0, 1] ⟨rfl, rfl, by decide, rfl⟩ rfl rfl (Nat.le_of_ble_eq_true rfl) dX3_age_16 ?_
      exact G.iret hX hQ dX3_age_19 (by rfl) (by rfl)
set_option maxHeartbeats 4000000 in
set_option maxRecDepth 100000 in
theorem c_X3_ageok (l : Launch) (E : EV) (t : Nat) (k : Nat) (r : AV) (ox : Nat → Nat) (rr : Nat → Nat) (rk : Nat → Nat) (rt : Nat → Nat) (rb : Nat → Nat) (xt : Nat → Nat) (kp : Int32) (h1 : t < 12) (h2 : k < 1000) : CI l yX3_age wsX3_age rmX3_age E [.ref (ox 0), .int (nI t), .int (nI k)] [(ox 0, noO ox rr rk rt rb xt kp), (rr 0, avO rr r.1 r.2.1), (rr 1, arI E 12 r.2.2.1), (rr 2, arI E 12 r.2.2.2.1), (rr 3, arI E 12 r.2.2.2.2.1), (rr 4, arI E 96 r.2.2.2.2.2)] [(ox 0, noO ox rr rk rt rb xt kp), (rr 0, avO rr ((av_aged r t (nI k)).1) ((av_aged r t (nI k)).2.1)), (rr 1, arI E 12 ((av_aged r t (nI k)).2.2.1)), (rr 2, arI E 12 ((av_aged r t (nI k)).2.2.2.1)), (rr 3, arI E 12 ((av_aged r t (nI k)).2.2.2.2.1)), (rr 4, arI E 96 ((av_aged r t (nI k)).2.2.2.2.2))] (r.2.2.2.1 t) := by
  refine CI.of (own := RX3) (cc := cX3_age) (nL := 4) (rt := (some .int)) (by decide) rfl rfl (Nat.le_of_ble_eq_true rfl) (fun X hX hQ => ?_)
  show G E X 4 0 [(0, .ref (ox 0)), (1, .int (nI t)), (2, .int (nI k))] [] [(ox 0, noO ox rr rk rt rb xt kp), (rr 0, avO rr r.1 r.2.1), (rr 1, arI E 12 r.2.2.1), (rr 2, arI E 12 r.2.2.2.1), (rr 3, arI E 12 r.2.2.2.2.1), (rr 4, arI E 96 r.2.2.2.2.2)]
  refine G.iload_n hX 1 rfl dX3_age_0 ?_
  refine G.s0i hX (As := [.int (nI t)]) (st := []) (c_X3_isTreen _ E (x := t) (h1 := by omega)) gX3_age_X3_isTree cp_X3_isTree (by decide) rfl rfl (Nat.le_of_ble_eq_true rfl) dX3_age_1 ?_
  refine G.if_eq hX (tgt := 14) (by decide) dX3_age_4 (fun c4 => absurd c4 (by decide)) (fun _ => ?_)
  refine G.iload_n hX 2 rfl dX3_age_7 ?_
  refine G.s0i hX (As := [.int (nI k)]) (st := []) (c_X3_isAgen _ E (x := k) (h1 := by omega)) gX3_age_X3_isAge cp_X3_isAge (by decide) rfl rfl (Nat.le_of_ble_eq_true rfl) dX3_age_8 ?_
  refine G.if_ne hX (tgt := 20) (by decide) dX3_age_11 (fun _ => ?_) (fun c11 => absurd c11 (by decide))
  refine G.aload_n hX 0 rfl dX3_age_20 ?_
  refine G.get hX inc_X3_age_3 0 rfl rfl 0 (by decide) (by decide +kernel) rfl dX3_age_21 ?_
  refine G.get hX inc_X3_age_0 1 rfl rfl 3 (by decide) (by decide +kernel) rfl dX3_age_24 ?_
  refine G.iload_n hX 1 rfl dX3_age_27 ?_
  refine G.iald hX (j := t) 3 rfl (by omega) (by omega) dX3_age_28 ?_
  refine G.istore_n hX (lv' := [(3, .int (r.2.2.2.1 t)), (0, .ref (ox 0)), (1, .int (nI t)), (2, .int (nI k))]) rfl (by decide) rfl dX3_age_29 ?_
  refine G.aload_n hX 1 rfl dX3_age_30 ?_
  refine G.get hX inc_X3_age_3 0 rfl rfl 0 (by decide) (by decide +kernel) rfl dX3_age_31 ?_
  refine G.get hX inc_X3_age_0 1 rfl rfl 3 (by decide) (by decide +kernel) rfl dX3_age_34 ?_
  refine G.iload_n hX 2 rfl dX3_age_37 ?_
  refine G.iload_n hX 3 rfl dX3_age_38 ?_
  refine G.iast hX (j := t) (ws' := [(ox 0, noO ox rr rk rt rb xt kp), (rr 0, avO rr r.1 r.2.1), (rr 1, arI E 12 r.2.2.1), (rr 2, arI E 12 (upd r.2.2.2.1 t (nI k))), (rr 3, arI E 12 r.2.2.2.2.1), (rr 4, arI E 96 r.2.2.2.2.2)]) 3 rfl (by omega) (by omega) rfl rfl dX3_age_39 ?_
  refine G.iload_n hX 0 rfl dX3_age_40 ?_
  exact G.iret hX hQ dX3_age_41 (by rfl) (by rfl)
abbrev rmX3_as : Room := { frames := 1, cells := 0, slots := 0, locals := 21 }
theorem cp_X3_as : CP yX3_as RX3 wsX3_as 3 2 rmX3_as := ⟨⟨_, _, _, rfl⟩, rfl, rfl, by decide +kernel⟩
theorem inc_X3_as_0 : ∀ w ∈ u_ws RX0 TX0 6, w ∈ wsX3_as := by decide +kernel
theorem inc_X3_as_3 : ∀ w ∈ u_ws RX3 TX3 9, w ∈ wsX3_as := by decide +kernel
set_option maxHeartbeats 4000000 in
set_option maxRecDepth 100000 in
theorem c_X3_asbad (l : Launch) (E : EV) (x : Int32) (y : Int32) (ox : Nat → Nat) (rr : Nat → Nat) (rk : Nat → Nat) (rt : Nat → Nat) (rb : Nat → Nat) (xt : Nat → Nat) (kp : Int32) (fo : Nat → Int32) (h1 : (cIn 12 x && cIn 6 y) = false) : CI l yX3_as wsX3_as rmX3_as E [.ref (ox 0), .int x, .int y] [(ox 0, noO ox rr rk rt rb xt kp), (ox 3, arI E 7 fo)] [(ox 0, noO ox rr rk rt rb xt kp), (ox 3, arI E 7 (upd fo 0 (fo 0 + 1)))] ((-1000000001)) := by
  refine CI.of (own := RX3) (cc := cX3_as) (nL := 3) (rt := (some .int)) (by decide) rfl rfl (Nat.le_of_ble_eq_true rfl) (fun X hX hQ => ?_)
  show G E X 3 0 [(0, .ref (ox 0)), (1, .int x), (2, .int y)] [] [(ox 0, noO ox rr rk rt rb xt kp), (ox 3, arI E 7 fo)]
  refine G.iload_n hX 1 rfl dX3_as_0 ?_
  refine G.s0i hX (As := [.int x]) (st := []) (c_X3_isTree _ E (x := x) ) gX3_as_X3_isTree cp_X3_isTree (by decide) rfl rfl (Nat.le_of_ble_eq_true rfl) dX3_as_1 ?_
  refine G.b_eq hX (tgt := 14) (by decide) dX3_as_4 (fun c4 => ?_) (fun c4 => ?_)
  · refine G.aload_n hX 0 rfl dX3_as_14 ?_
    refine G.iconst hX (v := 0) (by decide) dX3_as_15 ?_
    refine G.vi hX (As := [.int 0]) (st := []) (wr := []) (wf := [(ox 0, noO ox rr rk rt rb xt kp), (ox 3, arI E 7 (upd fo 0 (fo 0 + 1)))]) (q0 := 0) (ci := 3) rfl rfl (c_X3_finding0 _ E (ox := ox) (rr := rr) (rk := rk) (rt := rt) (rb := rb) (xt := xt) (kp := kp) (fo := fo) ) gX3_as_X3_finding cp_X3_finding (by decide) [0, 1] [] [0, 1] ⟨rfl, rfl, by decide, rfl⟩ rfl rfl (Nat.le_of_ble_eq_true rfl) dX3_as_16 ?_
    exact G.iret hX hQ dX3_as_19 (by rfl) (by rfl)
  · refine G.iload_n hX 2 rfl dX3_as_7 ?_
    refine G.s0i hX (As := [.int y]) (st := []) (c_X3_isKind _ E (x := y) ) gX3_as_X3_isKind cp_X3_isKind (by decide) rfl rfl (Nat.le_of_ble_eq_true rfl) dX3_as_8 ?_
    refine G.b_ne hX (tgt := 20) (by decide) dX3_as_11 (fun c11 => ?_) (fun c11 => ?_)
    · exact absurd h1 (by simp [cTo, cYe, c4, c11])
    · refine G.aload_n hX 0 rfl dX3_as_14 ?_
      refine G.iconst hX (v := 0) (by decide) dX3_as_15 ?_
      refine G.vi hX (As := [.int 0]) (st := []) (wr := []) (wf := [(ox 0, noO ox rr rk rt rb xt kp), (ox 3, arI E 7 (upd fo 0 (fo 0 + 1)))]) (q0 := 0) (ci := 3) rfl rfl (c_X3_finding0 _ E (ox := ox) (rr := rr) (rk := rk) (rt := rt) (rb := rb) (xt := xt) (kp := kp) (fo := fo) ) gX3_as_X3_finding cp_X3_finding (by decide) [0, 1] [] [0, 1] ⟨rfl, rfl, by decide, rfl⟩ rfl rfl (Nat.le_of_ble_eq_true rfl) dX3_as_16 ?_
      exact G.iret hX hQ dX3_as_19 (by rfl) (by rfl)
set_option maxHeartbeats 4000000 in
set_option maxRecDepth 100000 in
theorem c_X3_asu (l : Launch) (E : EV) (t : Nat) (k : Nat) (r : AV) (ox : Nat → Nat) (rr : Nat → Nat) (rk : Nat → Nat) (rt : Nat → Nat) (rb : Nat → Nat) (xt : Nat → Nat) (kp : Int32) (h1 : t < 12) (h2 : k < 6) (h3 : cU (r.2.2.1 t) (nI k) = true) : CI l yX3_as wsX3_as rmX3_as E [.ref (ox 0), .int (nI t), .int (nI k)] [(ox 0, noO ox rr rk rt rb xt kp), (rr 0, avO rr r.1 r.2.1), (rr 1, arI E 12 r.2.2.1), (rr 2, arI E 12 r.2.2.2.1), (rr 3, arI E 12 r.2.2.2.2.1), (rr 4, arI E 96 r.2.2.2.2.2)] [(ox 0, noO ox rr rk rt rb xt kp), (rr 0, avO rr r.1 r.2.1), (rr 1, arI E 12 r.2.2.1), (rr 2, arI E 12 r.2.2.2.1), (rr 3, arI E 12 r.2.2.2.2.1), (rr 4, arI E 96 r.2.2.2.2.2)] (r.2.2.2.1 t) := by
  refine CI.of (own := RX3) (cc := cX3_as) (nL := 3) (rt := (some .int)) (by decide) rfl rfl (Nat.le_of_ble_eq_true rfl) (fun X hX hQ => ?_)
  show G E X 3 0 [(0, .ref (ox 0)), (1, .int (nI t)), (2, .int (nI k))] [] [(ox 0, noO ox rr rk rt rb xt kp), (rr 0, avO rr r.1 r.2.1), (rr 1, arI E 12 r.2.2.1), (rr 2, arI E 12 r.2.2.2.1), (rr 3, arI E 12 r.2.2.2.2.1), (rr 4, arI E 96 r.2.2.2.2.2)]
  refine G.iload_n hX 1 rfl dX3_as_0 ?_
  refine G.s0i hX (As := [.int (nI t)]) (st := []) (c_X3_isTreen _ E (x := t) (h1 := by omega)) gX3_as_X3_isTree cp_X3_isTree (by decide) rfl rfl (Nat.le_of_ble_eq_true rfl) dX3_as_1 ?_
  refine G.if_eq hX (tgt := 14) (by decide) dX3_as_4 (fun c4 => absurd c4 (by decide)) (fun _ => ?_)
  refine G.iload_n hX 2 rfl dX3_as_7 ?_
  refine G.s0i hX (As := [.int (nI k)]) (st := []) (c_X3_isKindn _ E (x := k) (h1 := by omega)) gX3_as_X3_isKind cp_X3_isKind (by decide) rfl rfl (Nat.le_of_ble_eq_true rfl) dX3_as_8 ?_
  refine G.if_ne hX (tgt := 20) (by decide) dX3_as_11 (fun _ => ?_) (fun c11 => absurd c11 (by decide))
  refine G.aload_n hX 0 rfl dX3_as_20 ?_
  refine G.get hX inc_X3_as_3 0 rfl rfl 0 (by decide) (by decide +kernel) rfl dX3_as_21 ?_
  refine G.get hX inc_X3_as_0 1 rfl rfl 2 (by decide) (by decide +kernel) rfl dX3_as_24 ?_
  refine G.iload_n hX 1 rfl dX3_as_27 ?_
  refine G.iald hX (j := t) 2 rfl (by omega) (by omega) dX3_as_28 ?_
  refine G.iload_n hX 2 rfl dX3_as_29 ?_
  refine G.s0i hX (As := [.int (r.2.2.1 t), .int (nI k)]) (st := []) (c_X3_isUnder _ E (x := r.2.2.1 t) (y := nI k) ) gX3_as_X3_isUnder cp_X3_isUnder (by decide) rfl rfl (Nat.le_of_ble_eq_true rfl) dX3_as_30 ?_
  refine G.b_ne hX (tgt := 42) (by decide) dX3_as_33 (fun c33 => ?_) (fun c33 => ?_)
  · refine G.aload_n hX 0 rfl dX3_as_42 ?_
    refine G.get hX inc_X3_as_3 0 rfl rfl 0 (by decide) (by decide +kernel) rfl dX3_as_43 ?_
    refine G.get hX inc_X3_as_0 1 rfl rfl 3 (by decide) (by decide +kernel) rfl dX3_as_46 ?_
    refine G.iload_n hX 1 rfl dX3_as_49 ?_
    refine G.iald hX (j := t) 3 rfl (by omega) (by omega) dX3_as_50 ?_
    exact G.iret hX hQ dX3_as_51 (by rfl) (by rfl)
  · exact absurd h3 (by simp [c33])
set_option maxHeartbeats 4000000 in
set_option maxRecDepth 100000 in
theorem c_X3_asn (l : Launch) (E : EV) (t : Nat) (k : Nat) (r : AV) (ox : Nat → Nat) (rr : Nat → Nat) (rk : Nat → Nat) (rt : Nat → Nat) (rb : Nat → Nat) (xt : Nat → Nat) (kp : Int32) (fo : Nat → Int32) (h1 : t < 12) (h2 : k < 6) (h3 : cU (r.2.2.1 t) (nI k) = false) : CI l yX3_as wsX3_as rmX3_as E [.ref (ox 0), .int (nI t), .int (nI k)] [(ox 0, noO ox rr rk rt rb xt kp), (rr 0, avO rr r.1 r.2.1), (rr 1, arI E 12 r.2.2.1), (rr 2, arI E 12 r.2.2.2.1), (rr 3, arI E 12 r.2.2.2.2.1), (rr 4, arI E 96 r.2.2.2.2.2), (ox 3, arI E 7 fo)] [(ox 0, noO ox rr rk rt rb xt kp), (rr 0, avO rr r.1 r.2.1), (rr 1, arI E 12 r.2.2.1), (rr 2, arI E 12 r.2.2.2.1), (rr 3, arI E 12 r.2.2.2.2.1), (rr 4, arI E 96 r.2.2.2.2.2), (ox 3, arI E 7 (upd fo 2 (fo 2 + 1)))] ((-1000000003)) := by
  refine CI.of (own := RX3) (cc := cX3_as) (nL := 3) (rt := (some .int)) (by decide) rfl rfl (Nat.le_of_ble_eq_true rfl) (fun X hX hQ => ?_)
  show G E X 3 0 [(0, .ref (ox 0)), (1, .int (nI t)), (2, .int (nI k))] [] [(ox 0, noO ox rr rk rt rb xt kp), (rr 0, avO rr r.1 r.2.1), (rr 1, arI E 12 r.2.2.1), (rr 2, arI E 12 r.2.2.2.1), (rr 3, arI E 12 r.2.2.2.2.1), (rr 4, arI E 96 r.2.2.2.2.2), (ox 3, arI E 7 fo)]
  refine G.iload_n hX 1 rfl dX3_as_0 ?_
  refine G.s0i hX (As := [.int (nI t)]) (st := []) (c_X3_isTreen _ E (x := t) (h1 := by omega)) gX3_as_X3_isTree cp_X3_isTree (by decide) rfl rfl (Nat.le_of_ble_eq_true rfl) dX3_as_1 ?_
  refine G.if_eq hX (tgt := 14) (by decide) dX3_as_4 (fun c4 => absurd c4 (by decide)) (fun _ => ?_)
  refine G.iload_n hX 2 rfl dX3_as_7 ?_
  refine G.s0i hX (As := [.int (nI k)]) (st := []) (c_X3_isKindn _ E (x := k) (h1 := by omega)) gX3_as_X3_isKind cp_X3_isKind (by decide) rfl rfl (Nat.le_of_ble_eq_true rfl) dX3_as_8 ?_
  refine G.if_ne hX (tgt := 20) (by decide) dX3_as_11 (fun _ => ?_) (fun c11 => absurd c11 (by decide))
  refine G.aload_n hX 0 rfl dX3_as_20 ?_
  refine G.get hX inc_X3_as_3 0 rfl rfl 0 (by decide) (by decide +kernel) rfl dX3_as_21 ?_
  refine G.get hX inc_X3_as_0 1 rfl rfl 2 (by decide) (by decide +kernel) rfl dX3_as_24 ?_
  refine G.iload_n hX 1 rfl dX3_as_27 ?_
  refine G.iald hX (j := t) 2 rfl (by omega) (by omega) dX3_as_28 ?_
  refine G.iload_n hX 2 rfl dX3_as_29 ?_
  refine G.s0i hX (As := [.int (r.2.2.1 t), .int (nI k)]) (st := []) (c_X3_isUnder _ E (x := r.2.2.1 t) (y := nI k) ) gX3_as_X3_isUnder cp_X3_isUnder (by decide) rfl rfl (Nat.le_of_ble_eq_true rfl) dX3_as_30 ?_
  refine G.b_ne hX (tgt := 42) (by decide) dX3_as_33 (fun c33 => ?_) (fun c33 => ?_)
  · exact absurd h3 (by simp [c33])
  · refine G.aload_n hX 0 rfl dX3_as_36 ?_
    refine G.iconst hX (v := 2) (by decide) dX3_as_37 ?_
    refine G.vi hX (As := [.int 2]) (st := []) (wr := [(rr 0, avO rr r.1 r.2.1), (rr 1, arI E 12 r.2.2.1), (rr 2, arI E 12 r.2.2.2.1), (rr 3, arI E 12 r.2.2.2.2.1), (rr 4, arI E 96 r.2.2.2.2.2)]) (wf := [(ox 0, noO ox rr rk rt rb xt kp), (rr 0, avO rr r.1 r.2.1), (rr 1, arI E 12 r.2.2.1), (rr 2, arI E 12 r.2.2.2.1), (rr 3, arI E 12 r.2.2.2.2.1), (rr 4, arI E 96 r.2.2.2.2.2), (ox 3, arI E 7 (upd fo 2 (fo 2 + 1)))]) (q0 := 0) (ci := 3) rfl rfl (c_X3_finding2 _ E (ox := ox) (rr := rr) (rk := rk) (rt := rt) (rb := rb) (xt := xt) (kp := kp) (fo := fo) ) gX3_as_X3_finding cp_X3_finding (by decide) [0, 6] [1, 2, 3, 4, 5] [5, 0, 1, 2, 3, 4, 6] ⟨rfl, rfl, by decide, rfl⟩ rfl rfl (Nat.le_of_ble_eq_true rfl) dX3_as_38 ?_
    exact G.iret hX hQ dX3_as_41 (by rfl) (by rfl)
abbrev rmX3_meet : Room := { frames := 1, cells := 0, slots := 0, locals := 22 }
theorem cp_X3_meet : CP yX3_meet RX3 wsX3_meet 4 2 rmX3_meet := ⟨⟨_, _, _, rfl⟩, rfl, rfl, by decide +kernel⟩
theorem inc_X3_meet_3 : ∀ w ∈ u_ws RX3 TX3 9, w ∈ wsX3_meet := by decide +kernel
set_option maxHeartbeats 4000000 in
set_option maxRecDepth 100000 in
theorem c_X3_meetbad (l : Launch) (E : EV) (x : Int32) (y : Int32) (ox : Nat → Nat) (rr : Nat → Nat) (rk : Nat → Nat) (rt : Nat → Nat) (rb : Nat → Nat) (xt : Nat → Nat) (kp : Int32) (fo : Nat → Int32) (h1 : (cIn 6 x && cTo 1 y) = false) : CI l yX3_meet wsX3_meet rmX3_meet E [.ref (ox 0), .int x, .int y] [(ox 0, noO ox rr rk rt rb xt kp), (ox 3, arI E 7 fo)] [(ox 0, noO ox rr rk rt rb xt kp), (ox 3, arI E 7 (upd fo 0 (fo 0 + 1)))] ((-1000000001)) := by
  refine CI.of (own := RX3) (cc := cX3_meet) (nL := 4) (rt := (some .int)) (by decide) rfl rfl (Nat.le_of_ble_eq_true rfl) (fun X hX hQ => ?_)
  show G E X 4 0 [(0, .ref (ox 0)), (1, .int x), (2, .int y)] [] [(ox 0, noO ox rr rk rt rb xt kp), (ox 3, arI E 7 fo)]
  refine G.iload_n hX 1 rfl dX3_meet_0 ?_
  refine G.s0i hX (As := [.int x]) (st := []) (c_X3_isPlace _ E (x := x) ) gX3_meet_X3_isPlace cp_X3_isPlace (by decide) rfl rfl (Nat.le_of_ble_eq_true rfl) dX3_meet_1 ?_
  refine G.b_eq hX (tgt := 16) (by decide) dX3_meet_4 (fun c4 => ?_) (fun c4 => ?_)
  · refine G.aload_n hX 0 rfl dX3_meet_16 ?_
    refine G.iconst hX (v := 0) (by decide) dX3_meet_17 ?_
    refine G.vi hX (As := [.int 0]) (st := []) (wr := []) (wf := [(ox 0, noO ox rr rk rt rb xt kp), (ox 3, arI E 7 (upd fo 0 (fo 0 + 1)))]) (q0 := 0) (ci := 3) rfl rfl (c_X3_finding0 _ E (ox := ox) (rr := rr) (rk := rk) (rt := rt) (rb := rb) (xt := xt) (kp := kp) (fo := fo) ) gX3_meet_X3_finding cp_X3_finding (by decide) [0, 1] [] [0, 1] ⟨rfl, rfl, by decide, rfl⟩ rfl rfl (Nat.le_of_ble_eq_true rfl) dX3_meet_18 ?_
    exact G.iret hX hQ dX3_meet_21 (by rfl) (by rfl)
  · refine G.iload_n hX 2 rfl dX3_meet_7 ?_
    refine G.if_lt hX (tgt := 16) (by decide) dX3_meet_8 (fun c8 => ?_) (fun c8 => ?_)
    · refine G.aload_n hX 0 rfl dX3_meet_16 ?_
      refine G.iconst hX (v := 0) (by decide) dX3_meet_17 ?_
      refine G.vi hX (As := [.int 0]) (st := []) (wr := []) (wf := [(ox 0, noO ox rr rk rt rb xt kp), (ox 3, arI E 7 (upd fo 0 (fo 0 + 1)))]) (q0 := 0) (ci := 3) rfl rfl (c_X3_finding0 _ E (ox := ox) (rr := rr) (rk := rk) (rt := rt) (rb := rb) (xt := xt) (kp := kp) (fo := fo) ) gX3_meet_X3_finding cp_X3_finding (by decide) [0, 1] [] [0, 1] ⟨rfl, rfl, by decide, rfl⟩ rfl rfl (Nat.le_of_ble_eq_true rfl) dX3_meet_18 ?_
      exact G.iret hX hQ dX3_meet_21 (by rfl) (by rfl)
    · refine G.iload_n hX 2 rfl dX3_meet_11 ?_
      refine G.iconst hX (v := 1) (by decide) dX3_meet_12 ?_
      refine G.icmp_le hX (tgt := 22) (by decide) dX3_meet_13 (fun c13 => ?_) (fun c13 => ?_)
      · exact absurd h1 (by simp [cTo, cYe, c4, c8, c13])
      · refine G.aload_n hX 0 rfl dX3_meet_16 ?_
        refine G.iconst hX (v := 0) (by decide) dX3_meet_17 ?_
        refine G.vi hX (As := [.int 0]) (st := []) (wr := []) (wf := [(ox 0, noO ox rr rk rt rb xt kp), (ox 3, arI E 7 (upd fo 0 (fo 0 + 1)))]) (q0 := 0) (ci := 3) rfl rfl (c_X3_finding0 _ E (ox := ox) (rr := rr) (rk := rk) (rt := rt) (rb := rb) (xt := xt) (kp := kp) (fo := fo) ) gX3_meet_X3_finding cp_X3_finding (by decide) [0, 1] [] [0, 1] ⟨rfl, rfl, by decide, rfl⟩ rfl rfl (Nat.le_of_ble_eq_true rfl) dX3_meet_18 ?_
        exact G.iret hX hQ dX3_meet_21 (by rfl) (by rfl)
set_option maxHeartbeats 4000000 in
set_option maxRecDepth 100000 in
theorem c_X3_meet0 (l : Launch) (E : EV) (pl : Nat) (r : AV) (ox : Nat → Nat) (rr : Nat → Nat) (rk : Nat → Nat) (rt : Nat → Nat) (rb : Nat → Nat) (xt : Nat → Nat) (kp : Int32) (h1 : pl < 6) : CI l yX3_meet wsX3_meet rmX3_meet E [.ref (ox 0), .int (nI pl), .int 0] [(ox 0, noO ox rr rk rt rb xt kp), (rr 0, avO rr r.1 r.2.1), (rr 1, arI E 12 r.2.2.1), (rr 2, arI E 12 r.2.2.2.1), (rr 3, arI E 12 r.2.2.2.2.1), (rr 4, arI E 96 r.2.2.2.2.2)] [(ox 0, noO ox rr rk rt rb xt kp), (rr 0, avO rr ((av_setI r pl false).1) ((av_setI r pl false).2.1)), (rr 1, arI E 12 ((av_setI r pl false).2.2.1)), (rr 2, arI E 12 ((av_setI r pl false).2.2.2.1)), (rr 3, arI E 12 ((av_setI r pl false).2.2.2.2.1)), (rr 4, arI E 96 ((av_setI r pl false).2.2.2.2.2))] (bI (av_met r pl)) := by
  refine CI.of (own := RX3) (cc := cX3_meet) (nL := 4) (rt := (some .int)) (by decide) rfl rfl (Nat.le_of_ble_eq_true rfl) (fun X hX hQ => ?_)
  show G E X 4 0 [(0, .ref (ox 0)), (1, .int (nI pl)), (2, .int 0)] [] [(ox 0, noO ox rr rk rt rb xt kp), (rr 0, avO rr r.1 r.2.1), (rr 1, arI E 12 r.2.2.1), (rr 2, arI E 12 r.2.2.2.1), (rr 3, arI E 12 r.2.2.2.2.1), (rr 4, arI E 96 r.2.2.2.2.2)]
  refine G.iload_n hX 1 rfl dX3_meet_0 ?_
  refine G.s0i hX (As := [.int (nI pl)]) (st := []) (c_X3_isPlacen _ E (x := pl) (h1 := by omega)) gX3_meet_X3_isPlace cp_X3_isPlace (by decide) rfl rfl (Nat.le_of_ble_eq_true rfl) dX3_meet_1 ?_
  refine G.if_eq hX (tgt := 16) (by decide) dX3_meet_4 (fun c4 => absurd c4 (by decide)) (fun _ => ?_)
  refine G.iload_n hX 2 rfl dX3_meet_7 ?_
  refine G.if_lt hX (tgt := 16) (by decide) dX3_meet_8 (fun c8 => absurd c8 (by decide)) (fun _ => ?_)
  refine G.iload_n hX 2 rfl dX3_meet_11 ?_
  refine G.iconst hX (v := 1) (by decide) dX3_meet_12 ?_
  refine G.icmp_le hX (tgt := 22) (by decide) dX3_meet_13 (fun _ => ?_) (fun c13 => absurd c13 (by decide))
  refine G.aload_n hX 0 rfl dX3_meet_22 ?_
  refine G.get hX inc_X3_meet_3 0 rfl rfl 0 (by decide) (by decide +kernel) rfl dX3_meet_23 ?_
  refine G.iload_n hX 1 rfl dX3_meet_26 ?_
  refine G.vi hX (As := [.int (nI pl)]) (st := []) (wr := [(ox 0, noO ox rr rk rt rb xt kp)]) (wf := [(ox 0, noO ox rr rk rt rb xt kp), (rr 0, avO rr r.1 r.2.1), (rr 1, arI E 12 r.2.2.1), (rr 2, arI E 12 r.2.2.2.1), (rr 3, arI E 12 r.2.2.2.2.1), (rr 4, arI E 96 r.2.2.2.2.2)]) (q0 := 0) (ci := 0) rfl rfl (c_X0_isIntroduced _ E (q := r) (pl := pl) (a := rr) (h1 := by omega)) gX3_meet_X0_isIntroduced cp_X0_isIntroduced (by decide) [1, 2, 3, 4, 5] [0] [0, 1, 2, 3, 4, 5] ⟨rfl, rfl, by decide, rfl⟩ rfl rfl (Nat.le_of_ble_eq_true rfl) dX3_meet_27 ?_
  have J38 : G E X 4 38 [(0, .ref (ox 0)), (1, .int (nI pl)), (2, .int 0)] [.int (bI (av_met r pl))] [(ox 0, noO ox rr rk rt rb xt kp), (rr 0, avO rr r.1 r.2.1), (rr 1, arI E 12 r.2.2.1), (rr 2, arI E 12 r.2.2.2.1), (rr 3, arI E 12 r.2.2.2.2.1), (rr 4, arI E 96 r.2.2.2.2.2)] := by
    refine G.istore_n hX (lv' := [(3, .int (bI (av_met r pl))), (0, .ref (ox 0)), (1, .int (nI pl)), (2, .int 0)]) rfl (by decide) rfl dX3_meet_38 ?_
    refine G.aload_n hX 1 rfl dX3_meet_39 ?_
    refine G.get hX inc_X3_meet_3 0 rfl rfl 0 (by decide) (by decide +kernel) rfl dX3_meet_40 ?_
    refine G.iload_n hX 2 rfl dX3_meet_43 ?_
    refine G.iload_n hX 3 rfl dX3_meet_44 ?_
    refine G.iconst hX (v := 1) (by decide) dX3_meet_45 ?_
    refine G.icmp_ne hX (tgt := 53) (by decide) dX3_meet_46 (fun _ => ?_) (fun c46 => absurd c46 (by decide))
    refine G.iconst hX (v := 0) (by decide) dX3_meet_53 ?_
    refine G.vv hX (As := [.int (nI pl), .int 0]) (st := []) (wr := [(ox 0, noO ox rr rk rt rb xt kp)]) (wf := [(ox 0, noO ox rr rk rt rb xt kp), (rr 0, avO rr ((av_setI r pl false).1) ((av_setI r pl false).2.1)), (rr 1, arI E 12 ((av_setI r pl false).2.2.1)), (rr 2, arI E 12 ((av_setI r pl false).2.2.2.1)), (rr 3, arI E 12 ((av_setI r pl false).2.2.2.2.1)), (rr 4, arI E 96 ((av_setI r pl false).2.2.2.2.2))]) (q0 := 0) (ci := 0) rfl rfl (c_X0_setIntroduced _ E (q := r) (pl := pl) (b := false) (a := rr) (h1 := by omega)) gX3_meet_X0_setIntroduced cp_X0_setIntroduced (by decide) [1, 2, 3, 4, 5] [0] [0, 1, 2, 3, 4, 5] ⟨rfl, rfl, by decide, rfl⟩ rfl rfl (Nat.le_of_ble_eq_true rfl) dX3_meet_54 ?_
    refine G.iload_n hX 0 rfl dX3_meet_57 ?_
    exact G.iret hX hQ dX3_meet_58 (by rfl) (by rfl)
  refine G.b_eq hX (tgt := 37) (by decide) dX3_meet_30 (fun c30 => ?_) (fun c30 => ?_)
  · refine G.iconst hX (v := 0) (by decide) dX3_meet_37 ?_
    refine G.ie (y := bI (av_met r pl)) (by first | rfl | (simp only [bI, c30, ↓reduceIte, Bool.not_true, Bool.not_false, Bool.and_true, Bool.true_and, Bool.and_false, Bool.false_and, Bool.or_true, Bool.true_or, Bool.or_false, Bool.false_or, decide_true, decide_false, not_true_eq_false, not_false_eq_true, Bool.false_eq_true, Bool.true_eq_false]; done) | (simp only [bI, c30, ↓reduceIte, Bool.not_true, Bool.not_false, Bool.and_true, Bool.true_and, Bool.and_false, Bool.false_and, Bool.or_true, Bool.true_or, Bool.or_false, Bool.false_or, decide_true, decide_false, not_true_eq_false, not_false_eq_true, Bool.false_eq_true, Bool.true_eq_false]; rfl) | (simp [bI, c30]; done)) ?_
    exact J38
  · refine G.iconst hX (v := 1) (by decide) dX3_meet_33 ?_
    refine G.goto hX (tgt := 38) (by decide) dX3_meet_34 ?_
    refine G.ie (y := bI (av_met r pl)) (by first | rfl | (simp only [bI, c30, ↓reduceIte, Bool.not_true, Bool.not_false, Bool.and_true, Bool.true_and, Bool.and_false, Bool.false_and, Bool.or_true, Bool.true_or, Bool.or_false, Bool.false_or, decide_true, decide_false, not_true_eq_false, not_false_eq_true, Bool.false_eq_true, Bool.true_eq_false]; done) | (simp only [bI, c30, ↓reduceIte, Bool.not_true, Bool.not_false, Bool.and_true, Bool.true_and, Bool.and_false, Bool.false_and, Bool.or_true, Bool.true_or, Bool.or_false, Bool.false_or, decide_true, decide_false, not_true_eq_false, not_false_eq_true, Bool.false_eq_true, Bool.true_eq_false]; rfl) | (simp [bI, c30]; done)) ?_
    exact J38
set_option maxHeartbeats 4000000 in
set_option maxRecDepth 100000 in
theorem c_X3_meet1 (l : Launch) (E : EV) (pl : Nat) (r : AV) (ox : Nat → Nat) (rr : Nat → Nat) (rk : Nat → Nat) (rt : Nat → Nat) (rb : Nat → Nat) (xt : Nat → Nat) (kp : Int32) (h1 : pl < 6) : CI l yX3_meet wsX3_meet rmX3_meet E [.ref (ox 0), .int (nI pl), .int 1] [(ox 0, noO ox rr rk rt rb xt kp), (rr 0, avO rr r.1 r.2.1), (rr 1, arI E 12 r.2.2.1), (rr 2, arI E 12 r.2.2.2.1), (rr 3, arI E 12 r.2.2.2.2.1), (rr 4, arI E 96 r.2.2.2.2.2)] [(ox 0, noO ox rr rk rt rb xt kp), (rr 0, avO rr ((av_setI r pl true).1) ((av_setI r pl true).2.1)), (rr 1, arI E 12 ((av_setI r pl true).2.2.1)), (rr 2, arI E 12 ((av_setI r pl true).2.2.2.1)), (rr 3, arI E 12 ((av_setI r pl true).2.2.2.2.1)), (rr 4, arI E 96 ((av_setI r pl true).2.2.2.2.2))] (bI (av_met r pl)) := by
  refine CI.of (own := RX3) (cc := cX3_meet) (nL := 4) (rt := (some .int)) (by decide) rfl rfl (Nat.le_of_ble_eq_true rfl) (fun X hX hQ => ?_)
  show G E X 4 0 [(0, .ref (ox 0)), (1, .int (nI pl)), (2, .int 1)] [] [(ox 0, noO ox rr rk rt rb xt kp), (rr 0, avO rr r.1 r.2.1), (rr 1, arI E 12 r.2.2.1), (rr 2, arI E 12 r.2.2.2.1), (rr 3, arI E 12 r.2.2.2.2.1), (rr 4, arI E 96 r.2.2.2.2.2)]
  refine G.iload_n hX 1 rfl dX3_meet_0 ?_
  refine G.s0i hX (As := [.int (nI pl)]) (st := []) (c_X3_isPlacen _ E (x := pl) (h1 := by omega)) gX3_meet_X3_isPlace cp_X3_isPlace (by decide) rfl rfl (Nat.le_of_ble_eq_true rfl) dX3_meet_1 ?_
  refine G.if_eq hX (tgt := 16) (by decide) dX3_meet_4 (fun c4 => absurd c4 (by decide)) (fun _ => ?_)
  refine G.iload_n hX 2 rfl dX3_meet_7 ?_
  refine G.if_lt hX (tgt := 16) (by decide) dX3_meet_8 (fun c8 => absurd c8 (by decide)) (fun _ => ?_)
  refine G.iload_n hX 2 rfl dX3_meet_11 ?_
  refine G.iconst hX (v := 1) (by decide) dX3_meet_12 ?_
  refine G.icmp_le hX (tgt := 22) (by decide) dX3_meet_13 (fun _ => ?_) (fun c13 => absurd c13 (by decide))
  refine G.aload_n hX 0 rfl dX3_meet_22 ?_
  refine G.get hX inc_X3_meet_3 0 rfl rfl 0 (by decide) (by decide +kernel) rfl dX3_meet_23 ?_
  refine G.iload_n hX 1 rfl dX3_meet_26 ?_
  refine G.vi hX (As := [.int (nI pl)]) (st := []) (wr := [(ox 0, noO ox rr rk rt rb xt kp)]) (wf := [(ox 0, noO ox rr rk rt rb xt kp), (rr 0, avO rr r.1 r.2.1), (rr 1, arI E 12 r.2.2.1), (rr 2, arI E 12 r.2.2.2.1), (rr 3, arI E 12 r.2.2.2.2.1), (rr 4, arI E 96 r.2.2.2.2.2)]) (q0 := 0) (ci := 0) rfl rfl (c_X0_isIntroduced _ E (q := r) (pl := pl) (a := rr) (h1 := by omega)) gX3_meet_X0_isIntroduced cp_X0_isIntroduced (by decide) [1, 2, 3, 4, 5] [0] [0, 1, 2, 3, 4, 5] ⟨rfl, rfl, by decide, rfl⟩ rfl rfl (Nat.le_of_ble_eq_true rfl) dX3_meet_27 ?_
  have J38 : G E X 4 38 [(0, .ref (ox 0)), (1, .int (nI pl)), (2, .int 1)] [.int (bI (av_met r pl))] [(ox 0, noO ox rr rk rt rb xt kp), (rr 0, avO rr r.1 r.2.1), (rr 1, arI E 12 r.2.2.1), (rr 2, arI E 12 r.2.2.2.1), (rr 3, arI E 12 r.2.2.2.2.1), (rr 4, arI E 96 r.2.2.2.2.2)] := by
    refine G.istore_n hX (lv' := [(3, .int (bI (av_met r pl))), (0, .ref (ox 0)), (1, .int (nI pl)), (2, .int 1)]) rfl (by decide) rfl dX3_meet_38 ?_
    refine G.aload_n hX 1 rfl dX3_meet_39 ?_
    refine G.get hX inc_X3_meet_3 0 rfl rfl 0 (by decide) (by decide +kernel) rfl dX3_meet_40 ?_
    refine G.iload_n hX 2 rfl dX3_meet_43 ?_
    refine G.iload_n hX 3 rfl dX3_meet_44 ?_
    refine G.iconst hX (v := 1) (by decide) dX3_meet_45 ?_
    refine G.icmp_ne hX (tgt := 53) (by decide) dX3_meet_46 (fun c46 => absurd c46 (by decide)) (fun _ => ?_)
    refine G.iconst hX (v := 1) (by decide) dX3_meet_49 ?_
    refine G.goto hX (tgt := 54) (by decide) dX3_meet_50 ?_
    refine G.vv hX (As := [.int (nI pl), .int 1]) (st := []) (wr := [(ox 0, noO ox rr rk rt rb xt kp)]) (wf := [(ox 0, noO ox rr rk rt rb xt kp), (rr 0, avO rr ((av_setI r pl true).1) ((av_setI r pl true).2.1)), (rr 1, arI E 12 ((av_setI r pl true).2.2.1)), (rr 2, arI E 12 ((av_setI r pl true).2.2.2.1)), (rr 3, arI E 12 ((av_setI r pl true).2.2.2.2.1)), (rr 4, arI E 96 ((av_setI r pl true).2.2.2.2.2))]) (q0 := 0) (ci := 0) rfl rfl (c_X0_setIntroduced _ E (q := r) (pl := pl) (b := true) (a := rr) (h1 := by omega)) gX3_meet_X0_setIntroduced cp_X0_setIntroduced (by decide) [1, 2, 3, 4, 5] [0] [0, 1, 2, 3, 4, 5] ⟨rfl, rfl, by decide, rfl⟩ rfl rfl (Nat.le_of_ble_eq_true rfl) dX3_meet_54 ?_
    refine G.iload_n hX 0 rfl dX3_meet_57 ?_
    exact G.iret hX hQ dX3_meet_58 (by rfl) (by rfl)
  refine G.b_eq hX (tgt := 37) (by decide) dX3_meet_30 (fun c30 => ?_) (fun c30 => ?_)
  · refine G.iconst hX (v := 0) (by decide) dX3_meet_37 ?_
    refine G.ie (y := bI (av_met r pl)) (by first | rfl | (simp only [bI, c30, ↓reduceIte, Bool.not_true, Bool.not_false, Bool.and_true, Bool.true_and, Bool.and_false, Bool.false_and, Bool.or_true, Bool.true_or, Bool.or_false, Bool.false_or, decide_true, decide_false, not_true_eq_false, not_false_eq_true, Bool.false_eq_true, Bool.true_eq_false]; done) | (simp only [bI, c30, ↓reduceIte, Bool.not_true, Bool.not_false, Bool.and_true, Bool.true_and, Bool.and_false, Bool.false_and, Bool.or_true, Bool.true_or, Bool.or_false, Bool.false_or, decide_true, decide_false, not_true_eq_false, not_false_eq_true, Bool.false_eq_true, Bool.true_eq_false]; rfl) | (simp [bI, c30]; done)) ?_
    exact J38
  · refine G.iconst hX (v := 1) (by decide) dX3_meet_33 ?_
    refine G.goto hX (tgt := 38) (by decide) dX3_meet_34 ?_
    refine G.ie (y := bI (av_met r pl)) (by first | rfl | (simp only [bI, c30, ↓reduceIte, Bool.not_true, Bool.not_false, Bool.and_true, Bool.true_and, Bool.and_false, Bool.false_and, Bool.or_true, Bool.true_or, Bool.or_false, Bool.false_or, decide_true, decide_false, not_true_eq_false, not_false_eq_true, Bool.false_eq_true, Bool.true_eq_false]; done) | (simp only [bI, c30, ↓reduceIte, Bool.not_true, Bool.not_false, Bool.and_true, Bool.true_and, Bool.and_false, Bool.false_and, Bool.or_true, Bool.true_or, Bool.or_false, Bool.false_or, decide_true, decide_false, not_true_eq_false, not_false_eq_true, Bool.false_eq_true, Bool.true_eq_false]; rfl) | (simp [bI, c30]; done)) ?_
    exact J38
abbrev rmX3_tell : Room := { frames := 2, cells := 0, slots := 0, locals := 45 }
theorem cp_X3_tell : CP yX3_tell RX3 wsX3_tell 3 2 rmX3_tell := ⟨⟨_, _, _, rfl⟩, rfl, rfl, by decide +kernel⟩
theorem inc_X3_tell_3 : ∀ w ∈ u_ws RX3 TX3 9, w ∈ wsX3_tell := by decide +kernel
set_option maxHeartbeats 4000000 in
set_option maxRecDepth 100000 in
theorem c_X3_tellbad (l : Launch) (E : EV) (x : Int32) (y : Int32) (ox : Nat → Nat) (rr : Nat → Nat) (rk : Nat → Nat) (rt : Nat → Nat) (rb : Nat → Nat) (xt : Nat → Nat) (kp : Int32) (fo : Nat → Int32) (h1 : (cIn 12 x && cIn 8 y) = false) : CI l yX3_tell wsX3_tell rmX3_tell E [.ref (ox 0), .int x, .int y] [(ox 0, noO ox rr rk rt rb xt kp), (ox 3, arI E 7 fo)] [(ox 0, noO ox rr rk rt rb xt kp), (ox 3, arI E 7 (upd fo 0 (fo 0 + 1)))] ((-1000000001)) := by
  refine CI.of (own := RX3) (cc := cX3_tell) (nL := 3) (rt := (some .int)) (by decide) rfl rfl (Nat.le_of_ble_eq_true rfl) (fun X hX hQ => ?_)
  show G E X 3 0 [(0, .ref (ox 0)), (1, .int x), (2, .int y)] [] [(ox 0, noO ox rr rk rt rb xt kp), (ox 3, arI E 7 fo)]
  refine G.iload_n hX 1 rfl dX3_tell_0 ?_
  refine G.s0i hX (As := [.int x]) (st := []) (c_X3_isTree _ E (x := x) ) gX3_tell_X3_isTree cp_X3_isTree (by decide) rfl rfl (Nat.le_of_ble_eq_true rfl) dX3_tell_1 ?_
  refine G.b_eq hX (tgt := 14) (by decide) dX3_tell_4 (fun c4 => ?_) (fun c4 => ?_)
  · refine G.aload_n hX 0 rfl dX3_tell_14 ?_
    refine G.iconst hX (v := 0) (by decide) dX3_tell_15 ?_
    refine G.vi hX (As := [.int 0]) (st := []) (wr := []) (wf := [(ox 0, noO ox rr rk rt rb xt kp), (ox 3, arI E 7 (upd fo 0 (fo 0 + 1)))]) (q0 := 0) (ci := 3) rfl rfl (c_X3_finding0 _ E (ox := ox) (rr := rr) (rk := rk) (rt := rt) (rb := rb) (xt := xt) (kp := kp) (fo := fo) ) gX3_tell_X3_finding cp_X3_finding (by decide) [0, 1] [] [0, 1] ⟨rfl, rfl, by decide, rfl⟩ rfl rfl (Nat.le_of_ble_eq_true rfl) dX3_tell_16 ?_
    exact G.iret hX hQ dX3_tell_19 (by rfl) (by rfl)
  · refine G.iload_n hX 2 rfl dX3_tell_7 ?_
    refine G.s0i hX (As := [.int y]) (st := []) (c_X3_isMessage _ E (x := y) ) gX3_tell_X3_isMessage cp_X3_isMessage (by decide) rfl rfl (Nat.le_of_ble_eq_true rfl) dX3_tell_8 ?_
    refine G.b_ne hX (tgt := 20) (by decide) dX3_tell_11 (fun c11 => ?_) (fun c11 => ?_)
    · exact absurd h1 (by simp [cTo, cYe, c4, c11])
    · refine G.aload_n hX 0 rfl dX3_tell_14 ?_
      refine G.iconst hX (v := 0) (by decide) dX3_tell_15 ?_
      refine G.vi hX (As := [.int 0]) (st := []) (wr := []) (wf := [(ox 0, noO ox rr rk rt rb xt kp), (ox 3, arI E 7 (upd fo 0 (fo 0 + 1)))]) (q0 := 0) (ci := 3) rfl rfl (c_X3_finding0 _ E (ox := ox) (rr := rr) (rk := rk) (rt := rt) (rb := rb) (xt := xt) (kp := kp) (fo := fo) ) gX3_tell_X3_finding cp_X3_finding (by decide) [0, 1] [] [0, 1] ⟨rfl, rfl, by decide, rfl⟩ rfl rfl (Nat.le_of_ble_eq_true rfl) dX3_tell_16 ?_
      exact G.iret hX hQ dX3_tell_19 (by rfl) (by rfl)
set_option maxHeartbeats 4000000 in
set_option maxRecDepth 100000 in
theorem c_X3_tellk (l : Launch) (E : EV) (t : Nat) (m : Nat) (r : AV) (ox : Nat → Nat) (rr : Nat → Nat) (rk : Nat → Nat) (rt : Nat → Nat) (rb : Nat → Nat) (xt : Nat → Nat) (kp : Int32) (fo : Nat → Int32) (h1 : t < 12) (h2 : m < 8) (h3 : av_k r t m = true) : CI l yX3_tell wsX3_tell rmX3_tell E [.ref (ox 0), .int (nI t), .int (nI m)] [(ox 0, noO ox rr rk rt rb xt kp), (rr 0, avO rr r.1 r.2.1), (rr 1, arI E 12 r.2.2.1), (rr 2, arI E 12 r.2.2.2.1), (rr 3, arI E 12 r.2.2.2.2.1), (rr 4, arI E 96 r.2.2.2.2.2), (ox 3, arI E 7 fo)] [(ox 0, noO ox rr rk rt rb xt kp), (rr 0, avO rr r.1 r.2.1), (rr 1, arI E 12 r.2.2.1), (rr 2, arI E 12 r.2.2.2.1), (rr 3, arI E 12 r.2.2.2.2.1), (rr 4, arI E 96 r.2.2.2.2.2), (ox 3, arI E 7 (upd fo 4 (fo 4 + 1)))] ((-1000000005)) := by
  refine CI.of (own := RX3) (cc := cX3_tell) (nL := 3) (rt := (some .int)) (by decide) rfl rfl (Nat.le_of_ble_eq_true rfl) (fun X hX hQ => ?_)
  show G E X 3 0 [(0, .ref (ox 0)), (1, .int (nI t)), (2, .int (nI m))] [] [(ox 0, noO ox rr rk rt rb xt kp), (rr 0, avO rr r.1 r.2.1), (rr 1, arI E 12 r.2.2.1), (rr 2, arI E 12 r.2.2.2.1), (rr 3, arI E 12 r.2.2.2.2.1), (rr 4, arI E 96 r.2.2.2.2.2), (ox 3, arI E 7 fo)]
  refine G.iload_n hX 1 rfl dX3_tell_0 ?_
  refine G.s0i hX (As := [.int (nI t)]) (st := []) (c_X3_isTreen _ E (x := t) (h1 := by omega)) gX3_tell_X3_isTree cp_X3_isTree (by decide) rfl rfl (Nat.le_of_ble_eq_true rfl) dX3_tell_1 ?_
  refine G.if_eq hX (tgt := 14) (by decide) dX3_tell_4 (fun c4 => absurd c4 (by decide)) (fun _ => ?_)
  refine G.iload_n hX 2 rfl dX3_tell_7 ?_
  refine G.s0i hX (As := [.int (nI m)]) (st := []) (c_X3_isMessagen _ E (x := m) (h1 := by omega)) gX3_tell_X3_isMessage cp_X3_isMessage (by decide) rfl rfl (Nat.le_of_ble_eq_true rfl) dX3_tell_8 ?_
  refine G.if_ne hX (tgt := 20) (by decide) dX3_tell_11 (fun _ => ?_) (fun c11 => absurd c11 (by decide))
  refine G.aload_n hX 0 rfl dX3_tell_20 ?_
  refine G.get hX inc_X3_tell_3 0 rfl rfl 0 (by decide) (by decide +kernel) rfl dX3_tell_21 ?_
  refine G.iload_n hX 1 rfl dX3_tell_24 ?_
  refine G.iload_n hX 2 rfl dX3_tell_25 ?_
  refine G.vi hX (As := [.int (nI t), .int (nI m)]) (st := []) (wr := [(ox 0, noO ox rr rk rt rb xt kp), (ox 3, arI E 7 fo)]) (wf := [(ox 0, noO ox rr rk rt rb xt kp), (rr 0, avO rr r.1 r.2.1), (rr 1, arI E 12 r.2.2.1), (rr 2, arI E 12 r.2.2.2.1), (rr 3, arI E 12 r.2.2.2.2.1), (rr 4, arI E 96 r.2.2.2.2.2), (ox 3, arI E 7 fo)]) (q0 := 0) (ci := 0) rfl rfl (c_X0_knows _ E (q := r) (t := t) (m := m) (a := rr) (h1 := by omega) (h2 := by omega)) gX3_tell_X0_knows cp_X0_knows (by decide) [1, 2, 3, 4, 5] [0, 6] [0, 2, 3, 4, 5, 6, 1] ⟨rfl, rfl, by decide, rfl⟩ rfl rfl (Nat.le_of_ble_eq_true rfl) dX3_tell_26 ?_
  refine G.b_eq hX (tgt := 38) (by decide) dX3_tell_29 (fun c29 => ?_) (fun c29 => ?_)
  · exact absurd h3 (by simp [c29])
  · refine G.aload_n hX 0 rfl dX3_tell_32 ?_
    refine G.iconst hX (v := 4) (by decide) dX3_tell_33 ?_
    refine G.vi hX (As := [.int 4]) (st := []) (wr := [(rr 0, avO rr r.1 r.2.1), (rr 1, arI E 12 r.2.2.1), (rr 2, arI E 12 r.2.2.2.1), (rr 3, arI E 12 r.2.2.2.2.1), (rr 4, arI E 96 r.2.2.2.2.2)]) (wf := [(ox 0, noO ox rr rk rt rb xt kp), (rr 0, avO rr r.1 r.2.1), (rr 1, arI E 12 r.2.2.1), (rr 2, arI E 12 r.2.2.2.1), (rr 3, arI E 12 r.2.2.2.2.1), (rr 4, arI E 96 r.2.2.2.2.2), (ox 3, arI E 7 (upd fo 4 (fo 4 + 1)))]) (q0 := 0) (ci := 3) rfl rfl (c_X3_finding4 _ E (ox := ox) (rr := rr) (rk := rk) (rt := rt) (rb := rb) (xt := xt) (kp := kp) (fo := fo) ) gX3_tell_X3_finding cp_X3_finding (by decide) [0, 6] [1, 2, 3, 4, 5] [5, 0, 1, 2, 3, 4, 6] ⟨rfl, rfl, by decide, rfl⟩ rfl rfl (Nat.le_of_ble_eq_true rfl) dX3_tell_34 ?_
    exact G.iret hX hQ dX3_tell_37 (by rfl) (by rfl)
set_option maxHeartbeats 4000000 in
set_option maxRecDepth 100000 in
theorem c_X3_tellu (l : Launch) (E : EV) (t : Nat) (m : Nat) (r : AV) (ox : Nat → Nat) (rr : Nat → Nat) (rk : Nat → Nat) (rt : Nat → Nat) (rb : Nat → Nat) (xt : Nat → Nat) (kp : Int32) (h1 : t < 12) (h2 : m < 8) (h3 : av_k r t m = false) : CI l yX3_tell wsX3_tell rmX3_tell E [.ref (ox 0), .int (nI t), .int (nI m)] [(ox 0, noO ox rr rk rt rb xt kp), (rr 0, avO rr r.1 r.2.1), (rr 1, arI E 12 r.2.2.1), (rr 2, arI E 12 r.2.2.2.1), (rr 3, arI E 12 r.2.2.2.2.1), (rr 4, arI E 96 r.2.2.2.2.2)] [(ox 0, noO ox rr rk rt rb xt kp), (rr 0, avO rr ((av_learn r t m).1) ((av_learn r t m).2.1)), (rr 1, arI E 12 ((av_learn r t m).2.2.1)), (rr 2, arI E 12 ((av_learn r t m).2.2.2.1)), (rr 3, arI E 12 ((av_learn r t m).2.2.2.2.1)), (rr 4, arI E 96 ((av_learn r t m).2.2.2.2.2))] (nI (av_kn (av_learn r t m) m)) := by
  refine CI.of (own := RX3) (cc := cX3_tell) (nL := 3) (rt := (some .int)) (by decide) rfl rfl (Nat.le_of_ble_eq_true rfl) (fun X hX hQ => ?_)
  show G E X 3 0 [(0, .ref (ox 0)), (1, .int (nI t)), (2, .int (nI m))] [] [(ox 0, noO ox rr rk rt rb xt kp), (rr 0, avO rr r.1 r.2.1), (rr 1, arI E 12 r.2.2.1), (rr 2, arI E 12 r.2.2.2.1), (rr 3, arI E 12 r.2.2.2.2.1), (rr 4, arI E 96 r.2.2.2.2.2)]
  refine G.iload_n hX 1 rfl dX3_tell_0 ?_
  refine G.s0i hX (As := [.int (nI t)]) (st := []) (c_X3_isTreen _ E (x := t) (h1 := by omega)) gX3_tell_X3_isTree cp_X3_isTree (by decide) rfl rfl (Nat.le_of_ble_eq_true rfl) dX3_tell_1 ?_
  refine G.if_eq hX (tgt := 14) (by decide) dX3_tell_4 (fun c4 => absurd c4 (by decide)) (fun _ => ?_)
  refine G.iload_n hX 2 rfl dX3_tell_7 ?_
  refine G.s0i hX (As := [.int (nI m)]) (st := []) (c_X3_isMessagen _ E (x := m) (h1 := by omega)) gX3_tell_X3_isMessage cp_X3_isMessage (by decide) rfl rfl (Nat.le_of_ble_eq_true rfl) dX3_tell_8 ?_
  refine G.if_ne hX (tgt := 20) (by decide) dX3_tell_11 (fun _ => ?_) (fun c11 => absurd c11 (by decide))
  refine G.aload_n hX 0 rfl dX3_tell_20 ?_
  refine G.get hX inc_X3_tell_3 0 rfl rfl 0 (by decide) (by decide +kernel) rfl dX3_tell_21 ?_
  refine G.iload_n hX 1 rfl dX3_tell_24 ?_
  refine G.iload_n hX 2 rfl dX3_tell_25 ?_
  refine G.vi hX (As := [.int (nI t), .int (nI m)]) (st := []) (wr := [(ox 0, noO ox rr rk rt rb xt kp)]) (wf := [(ox 0, noO ox rr rk rt rb xt kp), (rr 0, avO rr r.1 r.2.1), (rr 1, arI E 12 r.2.2.1), (rr 2, arI E 12 r.2.2.2.1), (rr 3, arI E 12 r.2.2.2.2.1), (rr 4, arI E 96 r.2.2.2.2.2)]) (q0 := 0) (ci := 0) rfl rfl (c_X0_knows _ E (q := r) (t := t) (m := m) (a := rr) (h1 := by omega) (h2 := by omega)) gX3_tell_X0_knows cp_X0_knows (by decide) [1, 2, 3, 4, 5] [0] [0, 1, 2, 3, 4, 5] ⟨rfl, rfl, by decide, rfl⟩ rfl rfl (Nat.le_of_ble_eq_true rfl) dX3_tell_26 ?_
  refine G.b_eq hX (tgt := 38) (by decide) dX3_tell_29 (fun c29 => ?_) (fun c29 => ?_)
  · refine G.aload_n hX 0 rfl dX3_tell_38 ?_
    refine G.get hX inc_X3_tell_3 0 rfl rfl 0 (by decide) (by decide +kernel) rfl dX3_tell_39 ?_
    refine G.iload_n hX 1 rfl dX3_tell_42 ?_
    refine G.iload_n hX 2 rfl dX3_tell_43 ?_
    refine G.vv hX (As := [.int (nI t), .int (nI m)]) (st := []) (wr := [(ox 0, noO ox rr rk rt rb xt kp)]) (wf := [(ox 0, noO ox rr rk rt rb xt kp), (rr 0, avO rr ((av_learn r t m).1) ((av_learn r t m).2.1)), (rr 1, arI E 12 ((av_learn r t m).2.2.1)), (rr 2, arI E 12 ((av_learn r t m).2.2.2.1)), (rr 3, arI E 12 ((av_learn r t m).2.2.2.2.1)), (rr 4, arI E 96 ((av_learn r t m).2.2.2.2.2))]) (q0 := 0) (ci := 0) rfl rfl (c_X0_learn _ E (q := r) (t := t) (m := m) (a := rr) (h1 := by omega) (h2 := by omega)) gX3_tell_X0_learn cp_X0_learn (by decide) [1, 2, 3, 4, 5] [0] [0, 1, 2, 3, 4, 5] ⟨rfl, rfl, by decide, rfl⟩ rfl rfl (Nat.le_of_ble_eq_true rfl) dX3_tell_44 ?_
    refine G.aload_n hX 0 rfl dX3_tell_47 ?_
    refine G.get hX inc_X3_tell_3 0 rfl rfl 0 (by decide) (by decide +kernel) rfl dX3_tell_48 ?_
    refine G.iload_n hX 2 rfl dX3_tell_51 ?_
    refine G.vi hX (As := [.int (nI m)]) (st := []) (wr := [(ox 0, noO ox rr rk rt rb xt kp)]) (wf := [(ox 0, noO ox rr rk rt rb xt kp), (rr 0, avO rr ((av_learn r t m).1) ((av_learn r t m).2.1)), (rr 1, arI E 12 ((av_learn r t m).2.2.1)), (rr 2, arI E 12 ((av_learn r t m).2.2.2.1)), (rr 3, arI E 12 ((av_learn r t m).2.2.2.2.1)), (rr 4, arI E 96 ((av_learn r t m).2.2.2.2.2))]) (q0 := 0) (ci := 0) rfl rfl (c_X0_knowers _ E (q := av_learn r t m) (m := m) (a := rr) (h1 := by omega)) gX3_tell_X0_knowers cp_X0_knowers (by decide) [1, 2, 3, 4, 5] [0] [0, 1, 2, 3, 4, 5] ⟨rfl, rfl, by decide, rfl⟩ rfl rfl (Nat.le_of_ble_eq_true rfl) dX3_tell_52 ?_
    exact G.iret hX hQ dX3_tell_55 (by rfl) (by rfl)
  · exact absurd h3 (by simp [c29])
abbrev rmX3_forget : Room := { frames := 2, cells := 0, slots := 0, locals := 45 }
theorem cp_X3_forget : CP yX3_forget RX3 wsX3_forget 4 1 rmX3_forget := ⟨⟨_, _, _, rfl⟩, rfl, rfl, by decide +kernel⟩
theorem inc_X3_forget_3 : ∀ w ∈ u_ws RX3 TX3 9, w ∈ wsX3_forget := by decide +kernel
set_option maxHeartbeats 4000000 in
set_option maxRecDepth 100000 in
theorem c_X3_forgetbad (l : Launch) (E : EV) (x : Int32) (ox : Nat → Nat) (rr : Nat → Nat) (rk : Nat → Nat) (rt : Nat → Nat) (rb : Nat → Nat) (xt : Nat → Nat) (kp : Int32) (fo : Nat → Int32) (h1 : (cIn 8 x) = false) : CI l yX3_forget wsX3_forget rmX3_forget E [.ref (ox 0), .int x] [(ox 0, noO ox rr rk rt rb xt kp), (ox 3, arI E 7 fo)] [(ox 0, noO ox rr rk rt rb xt kp), (ox 3, arI E 7 (upd fo 0 (fo 0 + 1)))] ((-1000000001)) := by
  refine CI.of (own := RX3) (cc := cX3_forget) (nL := 4) (rt := (some .int)) (by decide) rfl rfl (Nat.le_of_ble_eq_true rfl) (fun X hX hQ => ?_)
  show G E X 4 0 [(0, .ref (ox 0)), (1, .int x)] [] [(ox 0, noO ox rr rk rt rb xt kp), (ox 3, arI E 7 fo)]
  refine G.iload_n hX 1 rfl dX3_forget_0 ?_
  refine G.s0i hX (As := [.int x]) (st := []) (c_X3_isMessage _ E (x := x) ) gX3_forget_X3_isMessage cp_X3_isMessage (by decide) rfl rfl (Nat.le_of_ble_eq_true rfl) dX3_forget_1 ?_
  refine G.b_ne hX (tgt := 13) (by decide) dX3_forget_4 (fun c4 => ?_) (fun c4 => ?_)
  · exact absurd h1 (by simp [cTo, cYe, c4])
  · refine G.aload_n hX 0 rfl dX3_forget_7 ?_
    refine G.iconst hX (v := 0) (by decide) dX3_forget_8 ?_
    refine G.vi hX (As := [.int 0]) (st := []) (wr := []) (wf := [(ox 0, noO ox rr rk rt rb xt kp), (ox 3, arI E 7 (upd fo 0 (fo 0 + 1)))]) (q0 := 0) (ci := 3) rfl rfl (c_X3_finding0 _ E (ox := ox) (rr := rr) (rk := rk) (rt := rt) (rb := rb) (xt := xt) (kp := kp) (fo := fo) ) gX3_forget_X3_finding cp_X3_finding (by decide) [0, 1] [] [0, 1] ⟨rfl, rfl, by decide, rfl⟩ rfl rfl (Nat.le_of_ble_eq_true rfl) dX3_forget_9 ?_
    exact G.iret hX hQ dX3_forget_12 (by rfl) (by rfl)
set_option maxHeartbeats 4000000 in
set_option maxRecDepth 100000 in
theorem c_X3_forgetok (l : Launch) (E : EV) (m : Nat) (r : AV) (ox : Nat → Nat) (rr : Nat → Nat) (rk : Nat → Nat) (rt : Nat → Nat) (rb : Nat → Nat) (xt : Nat → Nat) (kp : Int32) (h1 : m < 8) : CI l yX3_forget wsX3_forget rmX3_forget E [.ref (ox 0), .int (nI m)] [(ox 0, noO ox rr rk rt rb xt kp), (rr 0, avO rr r.1 r.2.1), (rr 1, arI E 12 r.2.2.1), (rr 2, arI E 12 r.2.2.2.1), (rr 3, arI E 12 r.2.2.2.2.1), (rr 4, arI E 96 r.2.2.2.2.2)] [(ox 0, noO ox rr rk rt rb xt kp), (rr 0, avO rr ((av_fg r m).1) ((av_fg r m).2.1)), (rr 1, arI E 12 ((av_fg r m).2.2.1)), (rr 2, arI E 12 ((av_fg r m).2.2.2.1)), (rr 3, arI E 12 ((av_fg r m).2.2.2.2.1)), (rr 4, arI E 96 ((av_fg r m).2.2.2.2.2))] (nI (av_kn r m)) := by
  refine CI.of (own := RX3) (cc := cX3_forget) (nL := 4) (rt := (some .int)) (by decide) rfl rfl (Nat.le_of_ble_eq_true rfl) (fun X hX hQ => ?_)
  show G E X 4 0 [(0, .ref (ox 0)), (1, .int (nI m))] [] [(ox 0, noO ox rr rk rt rb xt kp), (rr 0, avO rr r.1 r.2.1), (rr 1, arI E 12 r.2.2.1), (rr 2, arI E 12 r.2.2.2.1), (rr 3, arI E 12 r.2.2.2.2.1), (rr 4, arI E 96 r.2.2.2.2.2)]
  refine G.iload_n hX 1 rfl dX3_forget_0 ?_
  refine G.s0i hX (As := [.int (nI m)]) (st := []) (c_X3_isMessagen _ E (x := m) (h1 := by omega)) gX3_forget_X3_isMessage cp_X3_isMessage (by decide) rfl rfl (Nat.le_of_ble_eq_true rfl) dX3_forget_1 ?_
  refine G.if_ne hX (tgt := 13) (by decide) dX3_forget_4 (fun _ => ?_) (fun c4 => absurd c4 (by decide))
  refine G.aload_n hX 0 rfl dX3_forget_13 ?_
  refine G.get hX inc_X3_forget_3 0 rfl rfl 0 (by decide) (by decide +kernel) rfl dX3_forget_14 ?_
  refine G.iload_n hX 1 rfl dX3_forget_17 ?_
  refine G.vi hX (As := [.int (nI m)]) (st := []) (wr := [(ox 0, noO ox rr rk rt rb xt kp)]) (wf := [(ox 0, noO ox rr rk rt rb xt kp), (rr 0, avO rr r.1 r.2.1), (rr 1, arI E 12 r.2.2.1), (rr 2, arI E 12 r.2.2.2.1), (rr 3, arI E 12 r.2.2.2.2.1), (rr 4, arI E 96 r.2.2.2.2.2)]) (q0 := 0) (ci := 0) rfl rfl (c_X0_knowers _ E (q := r) (m := m) (a := rr) (h1 := by omega)) gX3_forget_X0_knowers cp_X0_knowers (by decide) [1, 2, 3, 4, 5] [0] [0, 1, 2, 3, 4, 5] ⟨rfl, rfl, by decide, rfl⟩ rfl rfl (Nat.le_of_ble_eq_true rfl) dX3_forget_18 ?_
  refine G.istore_n hX (lv' := [(2, .int (nI (av_kn r m))), (0, .ref (ox 0)), (1, .int (nI m))]) rfl (by decide) rfl dX3_forget_21 ?_
  refine G.iconst hX (v := 0) (by decide) dX3_forget_22 ?_
  refine G.istore_n hX (lv' := [(3, .int 0), (2, .int (nI (av_kn r m))), (0, .ref (ox 0)), (1, .int (nI m))]) rfl (by decide) rfl dX3_forget_23 ?_
  have L24 : ∀ (n : Nat) (t : Nat), t ≤ 12 → 13 ≤ t + n → G E X 4 24 [(0, .ref (ox 0)), (1, .int (nI m)), (2, .int (nI (av_kn r m))), (3, .int (nI t))] [] [(ox 0, noO ox rr rk rt rb xt kp), (rr 0, avO rr ((it (av_fgS m) t r).1) ((it (av_fgS m) t r).2.1)), (rr 1, arI E 12 ((it (av_fgS m) t r).2.2.1)), (rr 2, arI E 12 ((it (av_fgS m) t r).2.2.2.1)), (rr 3, arI E 12 ((it (av_fgS m) t r).2.2.2.2.1)), (rr 4, arI E 96 ((it (av_fgS m) t r).2.2.2.2.2))] := by
    intro n
    induction n with
    | zero => intro t hl24_0 hl24_1; exact absurd hl24_1 (by omega)
    | succ n ih24 =>
      intro t hl24_0 hl24_1
      refine G.iload_n hX 3 rfl dX3_forget_24 ?_
      refine G.bipush hX (v := 12) (by decide) dX3_forget_25 ?_
      refine G.n_ge hX (a := t) (b := 12) (tgt := 45) (by omega) (by omega) (by decide) dX3_forget_27 (fun c27 => ?_) (fun c27 => ?_)
      · obtain rfl : t = 12 := by omega
        refine G.we (ws' := [(ox 0, noO ox rr rk rt rb xt kp), (rr 0, avO rr ((av_fg r m).1) ((av_fg r m).2.1)), (rr 1, arI E 12 ((av_fg r m).2.2.1)), (rr 2, arI E 12 ((av_fg r m).2.2.2.1)), (rr 3, arI E 12 ((av_fg r m).2.2.2.2.1)), (rr 4, arI E 96 ((av_fg r m).2.2.2.2.2))]) (by rw [av_fg]) ?_
        refine G.iload_n hX 2 rfl dX3_forget_45 ?_
        exact G.iret hX hQ dX3_forget_46 (by rfl) (by rfl)
      · refine G.aload_n hX 0 rfl dX3_forget_30 ?_
        refine G.get hX inc_X3_forget_3 0 rfl rfl 0 (by decide) (by decide +kernel) rfl dX3_forget_31 ?_
        refine G.iload_n hX 3 rfl dX3_forget_34 ?_
        refine G.iload_n hX 1 rfl dX3_forget_35 ?_
        refine G.vv hX (As := [.int (nI t), .int (nI m)]) (st := []) (wr := [(ox 0, noO ox rr rk rt rb xt kp)]) (wf := [(ox 0, noO ox rr rk rt rb xt kp), (rr 0, avO rr ((av_lose (it (av_fgS m) t r) t m).1) ((av_lose (it (av_fgS m) t r) t m).2.1)), (rr 1, arI E 12 ((av_lose (it (av_fgS m) t r) t m).2.2.1)), (rr 2, arI E 12 ((av_lose (it (av_fgS m) t r) t m).2.2.2.1)), (rr 3, arI E 12 ((av_lose (it (av_fgS m) t r) t m).2.2.2.2.1)), (rr 4, arI E 96 ((av_lose (it (av_fgS m) t r) t m).2.2.2.2.2))]) (q0 := 0) (ci := 0) rfl rfl (c_X0_lose _ E (q := it (av_fgS m) t r) (t := t) (m := m) (a := rr) (h1 := by omega) (h2 := by omega)) gX3_forget_X0_lose cp_X0_lose (by decide) [1, 2, 3, 4, 5] [0] [0, 1, 2, 3, 4, 5] ⟨rfl, rfl, by decide, rfl⟩ rfl rfl (Nat.le_of_ble_eq_true rfl) dX3_forget_36 ?_
        refine G.iinc hX (n := 1) (lv' := [(3, .int (nI (t + 1))), (0, .ref (ox 0)), (1, .int (nI m)), (2, .int (nI (av_kn r m)))]) 3 rfl (inc_nI t 1 rfl) (by decide) rfl dX3_forget_39 ?_
        refine G.goto hX (tgt := 24) (by decide) dX3_forget_42 ?_
        refine G.lvp (lv' := [(0, .ref (ox 0)), (1, .int (nI m)), (2, .int (nI (av_kn r m))), (3, .int (nI (t + 1)))]) [1, 2, 3, 0] rfl ?_
        refine G.lve (lv' := [(0, .ref (ox 0)), (1, .int (nI m)), (2, .int (nI (av_kn r m))), (3, .int (nI ((t + 1))))]) (by rfl) ?_
        refine G.we (ws' := [(ox 0, noO ox rr rk rt rb xt kp), (rr 0, avO rr ((it (av_fgS m) (t + 1) r).1) ((it (av_fgS m) (t + 1) r).2.1)), (rr 1, arI E 12 ((it (av_fgS m) (t + 1) r).2.2.1)), (rr 2, arI E 12 ((it (av_fgS m) (t + 1) r).2.2.2.1)), (rr 3, arI E 12 ((it (av_fgS m) (t + 1) r).2.2.2.2.1)), (rr 4, arI E 96 ((it (av_fgS m) (t + 1) r).2.2.2.2.2))]) (by rfl) ?_
        exact ih24 (t + 1) (by omega) (by omega)
  refine G.lvp (lv' := [(0, .ref (ox 0)), (1, .int (nI m)), (2, .int (nI (av_kn r m))), (3, .int 0)]) [2, 3, 1, 0] rfl ?_
  refine G.lve (lv' := [(0, .ref (ox 0)), (1, .int (nI m)), (2, .int (nI (av_kn r m))), (3, .int (nI 0))]) (by rfl) ?_
  refine G.we (ws' := [(ox 0, noO ox rr rk rt rb xt kp), (rr 0, avO rr ((it (av_fgS m) 0 r).1) ((it (av_fgS m) 0 r).2.1)), (rr 1, arI E 12 ((it (av_fgS m) 0 r).2.2.1)), (rr 2, arI E 12 ((it (av_fgS m) 0 r).2.2.2.1)), (rr 3, arI E 12 ((it (av_fgS m) 0 r).2.2.2.2.1)), (rr 4, arI E 96 ((it (av_fgS m) 0 r).2.2.2.2.2))]) (by rfl) ?_
  exact L24 13 0 (by omega) (by omega)
abbrev rmX3_years : Room := { frames := 5, cells := 0, slots := 0, locals := 118 }
theorem cp_X3_years : CP yX3_years RX3 wsX3_years 2 1 rmX3_years := ⟨⟨_, _, _, rfl⟩, rfl, rfl, by decide +kernel⟩
theorem inc_X3_years_0 : ∀ w ∈ u_ws RX0 TX0 6, w ∈ wsX3_years := by decide +kernel
theorem inc_X3_years_3 : ∀ w ∈ u_ws RX3 TX3 9, w ∈ wsX3_years := by decide +kernel
set_option maxHeartbeats 4000000 in
set_option maxRecDepth 100000 in
theorem c_X3_yearsbad (l : Launch) (E : EV) (x : Int32) (ox : Nat → Nat) (rr : Nat → Nat) (rk : Nat → Nat) (rt : Nat → Nat) (rb : Nat → Nat) (xt : Nat → Nat) (kp : Int32) (fo : Nat → Int32) (h1 : (cYe x) = false) : CI l yX3_years wsX3_years rmX3_years E [.ref (ox 0), .int x] [(ox 0, noO ox rr rk rt rb xt kp), (ox 3, arI E 7 fo)] [(ox 0, noO ox rr rk rt rb xt kp), (ox 3, arI E 7 (upd fo 0 (fo 0 + 1)))] ((-1000000001)) := by
  refine CI.of (own := RX3) (cc := cX3_years) (nL := 2) (rt := (some .int)) (by decide) rfl rfl (Nat.le_of_ble_eq_true rfl) (fun X hX hQ => ?_)
  show G E X 2 0 [(0, .ref (ox 0)), (1, .int x)] [] [(ox 0, noO ox rr rk rt rb xt kp), (ox 3, arI E 7 fo)]
  refine G.iload_n hX 1 rfl dX3_years_0 ?_
  refine G.iconst hX (v := 1) (by decide) dX3_years_1 ?_
  refine G.icmp_lt hX (tgt := 11) (by decide) dX3_years_2 (fun c2 => ?_) (fun c2 => ?_)
  · refine G.aload_n hX 0 rfl dX3_years_11 ?_
    refine G.iconst hX (v := 0) (by decide) dX3_years_12 ?_
    refine G.vi hX (As := [.int 0]) (st := []) (wr := []) (wf := [(ox 0, noO ox rr rk rt rb xt kp), (ox 3, arI E 7 (upd fo 0 (fo 0 + 1)))]) (q0 := 0) (ci := 3) rfl rfl (c_X3_finding0 _ E (ox := ox) (rr := rr) (rk := rk) (rt := rt) (rb := rb) (xt := xt) (kp := kp) (fo := fo) ) gX3_years_X3_finding cp_X3_finding (by decide) [0, 1] [] [0, 1] ⟨rfl, rfl, by decide, rfl⟩ rfl rfl (Nat.le_of_ble_eq_true rfl) dX3_years_13 ?_
    exact G.iret hX hQ dX3_years_16 (by rfl) (by rfl)
  · refine G.iload_n hX 1 rfl dX3_years_5 ?_
    refine G.bipush hX (v := 100) (by decide) dX3_years_6 ?_
    refine G.icmp_le hX (tgt := 17) (by decide) dX3_years_8 (fun c8 => ?_) (fun c8 => ?_)
    · exact absurd h1 (by simp [cTo, cYe, c2, c8])
    · refine G.aload_n hX 0 rfl dX3_years_11 ?_
      refine G.iconst hX (v := 0) (by decide) dX3_years_12 ?_
      refine G.vi hX (As := [.int 0]) (st := []) (wr := []) (wf := [(ox 0, noO ox rr rk rt rb xt kp), (ox 3, arI E 7 (upd fo 0 (fo 0 + 1)))]) (q0 := 0) (ci := 3) rfl rfl (c_X3_finding0 _ E (ox := ox) (rr := rr) (rk := rk) (rt := rt) (rb := rb) (xt := xt) (kp := kp) (fo := fo) ) gX3_years_X3_finding cp_X3_finding (by decide) [0, 1] [] [0, 1] ⟨rfl, rfl, by decide, rfl⟩ rfl rfl (Nat.le_of_ble_eq_true rfl) dX3_years_13 ?_
      exact G.iret hX hQ dX3_years_16 (by rfl) (by rfl)
set_option maxHeartbeats 4000000 in
set_option maxRecDepth 100000 in
theorem c_X3_yearsok (l : Launch) (E : EV) (n0 : Nat) (r : AV) (ox : Nat → Nat) (rr : Nat → Nat) (rk : Nat → Nat) (rt : Nat → Nat) (rb : Nat → Nat) (xt : Nat → Nat) (kp : Int32) (h1 : 1 ≤ n0) (h2 : n0 ≤ 100) (h3 : r.1 + nI n0 ≤ 9999) : CI l yX3_years wsX3_years rmX3_years E [.ref (ox 0), .int (nI n0)] [(ox 0, noO ox rr rk rt rb xt kp), (rr 0, avO rr r.1 r.2.1), (rr 1, arI E 12 r.2.2.1), (rr 2, arI E 12 r.2.2.2.1), (rr 3, arI E 12 r.2.2.2.2.1), (rr 4, arI E 96 r.2.2.2.2.2)] [(ox 0, noO ox rr rk rt rb xt kp), (rr 0, avO rr ((av_ys 255 n0 r).1) ((av_ys 255 n0 r).2.1)), (rr 1, arI E 12 ((av_ys 255 n0 r).2.2.1)), (rr 2, arI E 12 ((av_ys 255 n0 r).2.2.2.1)), (rr 3, arI E 12 ((av_ys 255 n0 r).2.2.2.2.1)), (rr 4, arI E 96 ((av_ys 255 n0 r).2.2.2.2.2))] (av_home (av_ys 255 n0 r)) := by
  refine CI.of (own := RX3) (cc := cX3_years) (nL := 2) (rt := (some .int)) (by decide) rfl rfl (Nat.le_of_ble_eq_true rfl) (fun X hX hQ => ?_)
  show G E X 2 0 [(0, .ref (ox 0)), (1, .int (nI n0))] [] [(ox 0, noO ox rr rk rt rb xt kp), (rr 0, avO rr r.1 r.2.1), (rr 1, arI E 12 r.2.2.1), (rr 2, arI E 12 r.2.2.2.1), (rr 3, arI E 12 r.2.2.2.2.1), (rr 4, arI E 96 r.2.2.2.2.2)]
  refine G.iload_n hX 1 rfl dX3_years_0 ?_
  refine G.iconst hX (v := 1) (by decide) dX3_years_1 ?_
  refine G.n_lt hX (a := n0) (b := 1) (tgt := 11) (by omega) (by omega) (by decide) dX3_years_2 (fun c2 => ?_) (fun c2 => ?_)
  · exact absurd h1 (by omega)
  · refine G.iload_n hX 1 rfl dX3_years_5 ?_
    refine G.bipush hX (v := 100) (by decide) dX3_years_6 ?_
    refine G.n_le hX (a := n0) (b := 100) (tgt := 17) (by omega) (by omega) (by decide) dX3_years_8 (fun c8 => ?_) (fun c8 => ?_)
    · refine G.aload_n hX 0 rfl dX3_years_17 ?_
      refine G.get hX inc_X3_years_3 0 rfl rfl 0 (by decide) (by decide +kernel) rfl dX3_years_18 ?_
      refine G.get hX inc_X3_years_0 1 rfl rfl 0 (by decide) (by decide +kernel) rfl dX3_years_21 ?_
      refine G.iload_n hX 1 rfl dX3_years_24 ?_
      refine G.iadd hX dX3_years_25 ?_
      refine G.sipush hX (v := 9999) (by decide) dX3_years_26 ?_
      refine G.icmp_le hX (tgt := 38) (by decide) dX3_years_29 (fun c29 => ?_) (fun c29 => ?_)
      · refine G.aload_n hX 0 rfl dX3_years_38 ?_
        refine G.get hX inc_X3_years_3 0 rfl rfl 0 (by decide) (by decide +kernel) rfl dX3_years_39 ?_
        refine G.iload_n hX 1 rfl dX3_years_42 ?_
        refine G.vv hX (As := [.int (nI n0)]) (st := []) (wr := [(ox 0, noO ox rr rk rt rb xt kp)]) (wf := [(ox 0, noO ox rr rk rt rb xt kp), (rr 0, avO rr ((av_ys 255 n0 r).1) ((av_ys 255 n0 r).2.1)), (rr 1, arI E 12 ((av_ys 255 n0 r).2.2.1)), (rr 2, arI E 12 ((av_ys 255 n0 r).2.2.2.1)), (rr 3, arI E 12 ((av_ys 255 n0 r).2.2.2.2.1)), (rr 4, arI E 96 ((av_ys 255 n0 r).2.2.2.2.2))]) (q0 := 0) (ci := 0) rfl rfl (c_X0_passYears _ E (q := r) (n0 := n0) (a := rr) (h1 := by omega)) gX3_years_X0_passYears cp_X0_passYears (by decide) [1, 2, 3, 4, 5] [0] [0, 1, 2, 3, 4, 5] ⟨rfl, rfl, by decide, rfl⟩ rfl rfl (Nat.le_of_ble_eq_true rfl) dX3_years_43 ?_
        refine G.aload_n hX 0 rfl dX3_years_46 ?_
        refine G.get hX inc_X3_years_3 0 rfl rfl 0 (by decide) (by decide +kernel) rfl dX3_years_47 ?_
        refine G.vi hX (As := []) (st := []) (wr := [(ox 0, noO ox rr rk rt rb xt kp)]) (wf := [(ox 0, noO ox rr rk rt rb xt kp), (rr 0, avO rr ((av_ys 255 n0 r).1) ((av_ys 255 n0 r).2.1)), (rr 1, arI E 12 ((av_ys 255 n0 r).2.2.1)), (rr 2, arI E 12 ((av_ys 255 n0 r).2.2.2.1)), (rr 3, arI E 12 ((av_ys 255 n0 r).2.2.2.2.1)), (rr 4, arI E 96 ((av_ys 255 n0 r).2.2.2.2.2))]) (q0 := 0) (ci := 0) rfl rfl (c_X0_knownAtTerrace _ E (q := av_ys 255 n0 r) (a := rr) ) gX3_years_X0_knownAtTerrace cp_X0_knownAtTerrace (by decide) [1, 2, 3, 4, 5] [0] [0, 1, 2, 3, 4, 5] ⟨rfl, rfl, by decide, rfl⟩ rfl rfl (Nat.le_of_ble_eq_true rfl) dX3_years_50 ?_
        exact G.iret hX hQ dX3_years_53 (by rfl) (by rfl)
      · exact absurd h3 c29
    · exact absurd h1 (by omega)
set_option maxHeartbeats 4000000 in
set_option maxRecDepth 100000 in
theorem c_X3_yearsst (l : Launch) (E : EV) (n0 : Nat) (r : AV) (ox : Nat → Nat) (rr : Nat → Nat) (rk : Nat → Nat) (rt : Nat → Nat) (rb : Nat → Nat) (xt : Nat → Nat) (kp : Int32) (fo : Nat → Int32) (h1 : 1 ≤ n0) (h2 : n0 ≤ 100) (h3 : ¬ r.1 + nI n0 ≤ 9999) : CI l yX3_years wsX3_years rmX3_years E [.ref (ox 0), .int (nI n0)] [(ox 0, noO ox rr rk rt rb xt kp), (rr 0, avO rr r.1 r.2.1), (rr 1, arI E 12 r.2.2.1), (rr 2, arI E 12 r.2.2.2.1), (rr 3, arI E 12 r.2.2.2.2.1), (rr 4, arI E 96 r.2.2.2.2.2), (ox 3, arI E 7 fo)] [(ox 0, noO ox rr rk rt rb xt kp), (rr 0, avO rr r.1 r.2.1), (rr 1, arI E 12 r.2.2.1), (rr 2, arI E 12 r.2.2.2.1), (rr 3, arI E 12 r.2.2.2.2.1), (rr 4, arI E 96 r.2.2.2.2.2), (ox 3, arI E 7 (upd fo 4 (fo 4 + 1)))] ((-1000000005)) := by
  refine CI.of (own := RX3) (cc := cX3_years) (nL := 2) (rt := (some .int)) (by decide) rfl rfl (Nat.le_of_ble_eq_true rfl) (fun X hX hQ => ?_)
  show G E X 2 0 [(0, .ref (ox 0)), (1, .int (nI n0))] [] [(ox 0, noO ox rr rk rt rb xt kp), (rr 0, avO rr r.1 r.2.1), (rr 1, arI E 12 r.2.2.1), (rr 2, arI E 12 r.2.2.2.1), (rr 3, arI E 12 r.2.2.2.2.1), (rr 4, arI E 96 r.2.2.2.2.2), (ox 3, arI E 7 fo)]
  refine G.iload_n hX 1 rfl dX3_years_0 ?_
  refine G.iconst hX (v := 1) (by decide) dX3_years_1 ?_
  refine G.n_lt hX (a := n0) (b := 1) (tgt := 11) (by omega) (by omega) (by decide) dX3_years_2 (fun c2 => ?_) (fun c2 => ?_)
  · exact absurd h1 (by omega)
  · refine G.iload_n hX 1 rfl dX3_years_5 ?_
    refine G.bipush hX (v := 100) (by decide) dX3_years_6 ?_
    refine G.n_le hX (a := n0) (b := 100) (tgt := 17) (by omega) (by omega) (by decide) dX3_years_8 (fun c8 => ?_) (fun c8 => ?_)
    · refine G.aload_n hX 0 rfl dX3_years_17 ?_
      refine G.get hX inc_X3_years_3 0 rfl rfl 0 (by decide) (by decide +kernel) rfl dX3_years_18 ?_
      refine G.get hX inc_X3_years_0 1 rfl rfl 0 (by decide) (by decide +kernel) rfl dX3_years_21 ?_
      refine G.iload_n hX 1 rfl dX3_years_24 ?_
      refine G.iadd hX dX3_years_25 ?_
      refine G.sipush hX (v := 9999) (by decide) dX3_years_26 ?_
      refine G.icmp_le hX (tgt := 38) (by decide) dX3_years_29 (fun c29 => ?_) (fun c29 => ?_)
      · exact absurd c29 h3
      · refine G.aload_n hX 0 rfl dX3_years_32 ?_
        refine G.iconst hX (v := 4) (by decide) dX3_years_33 ?_
        refine G.vi hX (As := [.int 4]) (st := []) (wr := [(rr 0, avO rr r.1 r.2.1), (rr 1, arI E 12 r.2.2.1), (rr 2, arI E 12 r.2.2.2.1), (rr 3, arI E 12 r.2.2.2.2.1), (rr 4, arI E 96 r.2.2.2.2.2)]) (wf := [(ox 0, noO ox rr rk rt rb xt kp), (rr 0, avO rr r.1 r.2.1), (rr 1, arI E 12 r.2.2.1), (rr 2, arI E 12 r.2.2.2.1), (rr 3, arI E 12 r.2.2.2.2.1), (rr 4, arI E 96 r.2.2.2.2.2), (ox 3, arI E 7 (upd fo 4 (fo 4 + 1)))]) (q0 := 0) (ci := 3) rfl rfl (c_X3_finding4 _ E (ox := ox) (rr := rr) (rk := rk) (rt := rt) (rb := rb) (xt := xt) (kp := kp) (fo := fo) ) gX3_years_X3_finding cp_X3_finding (by decide) [0, 6] [1, 2, 3, 4, 5] [5, 0, 1, 2, 3, 4, 6] ⟨rfl, rfl, by decide, rfl⟩ rfl rfl (Nat.le_of_ble_eq_true rfl) dX3_years_34 ?_
        exact G.iret hX hQ dX3_years_37 (by rfl) (by rfl)
    · exact absurd h1 (by omega)
abbrev rmX3_gale : Room := { frames := 3, cells := 0, slots := 0, locals := 66 }
theorem cp_X3_gale : CP yX3_gale RX3 wsX3_gale 1 0 rmX3_gale := ⟨⟨_, _, _, rfl⟩, rfl, rfl, by decide +kernel⟩
theorem inc_X3_gale_3 : ∀ w ∈ u_ws RX3 TX3 9, w ∈ wsX3_gale := by decide +kernel
set_option maxHeartbeats 4000000 in
set_option maxRecDepth 100000 in
theorem c_X3_gale (l : Launch) (E : EV) (r : AV) (ox : Nat → Nat) (rr : Nat → Nat) (rk : Nat → Nat) (rt : Nat → Nat) (rb : Nat → Nat) (xt : Nat → Nat) (kp : Int32)  : CI l yX3_gale wsX3_gale rmX3_gale E [.ref (ox 0)] [(ox 0, noO ox rr rk rt rb xt kp), (rr 0, avO rr r.1 r.2.1), (rr 1, arI E 12 r.2.2.1), (rr 2, arI E 12 r.2.2.2.1), (rr 3, arI E 12 r.2.2.2.2.1), (rr 4, arI E 96 r.2.2.2.2.2)] [(ox 0, noO ox rr rk rt rb xt kp), (rr 0, avO rr ((av_bl r).1) ((av_bl r).2.1)), (rr 1, arI E 12 ((av_bl r).2.2.1)), (rr 2, arI E 12 ((av_bl r).2.2.2.1)), (rr 3, arI E 12 ((av_bl r).2.2.2.2.1)), (rr 4, arI E 96 ((av_bl r).2.2.2.2.2))] (av_all (av_bl r) - av_all r) := by
  refine CI.of (own := RX3) (cc := cX3_gale) (nL := 1) (rt := (some .int)) (by decide) rfl rfl (Nat.le_of_ble_eq_true rfl) (fun X hX hQ => ?_)
  show G E X 1 0 [(0, .ref (ox 0))] [] [(ox 0, noO ox rr rk rt rb xt kp), (rr 0, avO rr r.1 r.2.1), (rr 1, arI E 12 r.2.2.1), (rr 2, arI E 12 r.2.2.2.1), (rr 3, arI E 12 r.2.2.2.2.1), (rr 4, arI E 96 r.2.2.2.2.2)]
  refine G.aload_n hX 0 rfl dX3_gale_0 ?_
  refine G.get hX inc_X3_gale_3 0 rfl rfl 0 (by decide) (by decide +kernel) rfl dX3_gale_1 ?_
  refine G.vi hX (As := []) (st := []) (wr := [(ox 0, noO ox rr rk rt rb xt kp)]) (wf := [(ox 0, noO ox rr rk rt rb xt kp), (rr 0, avO rr ((av_bl r).1) ((av_bl r).2.1)), (rr 1, arI E 12 ((av_bl r).2.2.1)), (rr 2, arI E 12 ((av_bl r).2.2.2.1)), (rr 3, arI E 12 ((av_bl r).2.2.2.2.1)), (rr 4, arI E 96 ((av_bl r).2.2.2.2.2))]) (q0 := 0) (ci := 0) rfl rfl (c_X0_blow _ E (q := r) (a := rr) ) gX3_gale_X0_blow cp_X0_blow (by decide) [1, 2, 3, 4, 5] [0] [0, 1, 2, 3, 4, 5] ⟨rfl, rfl, by decide, rfl⟩ rfl rfl (Nat.le_of_ble_eq_true rfl) dX3_gale_4 ?_
  exact G.iret hX hQ dX3_gale_7 (by rfl) (by rfl)
abbrev rmX3_now : Room := { frames := 2, cells := 0, slots := 0, locals := 42 }
theorem cp_X3_now : CP yX3_now RX3 wsX3_now 2 1 rmX3_now := ⟨⟨_, _, _, rfl⟩, rfl, rfl, by decide +kernel⟩
theorem inc_X3_now_0 : ∀ w ∈ u_ws RX0 TX0 6, w ∈ wsX3_now := by decide +kernel
theorem inc_X3_now_3 : ∀ w ∈ u_ws RX3 TX3 9, w ∈ wsX3_now := by decide +kernel
set_option maxHeartbeats 4000000 in
set_option maxRecDepth 100000 in
theorem c_X3_now0 (l : Launch) (E : EV) (r : AV) (ox : Nat → Nat) (rr : Nat → Nat) (rk : Nat → Nat) (rt : Nat → Nat) (rb : Nat → Nat) (xt : Nat → Nat) (kp : Int32)  : CI l yX3_now wsX3_now rmX3_now E [.ref (ox 0), .int 0] [(ox 0, noO ox rr rk rt rb xt kp), (rr 0, avO rr r.1 r.2.1), (rr 1, arI E 12 r.2.2.1), (rr 2, arI E 12 r.2.2.2.1), (rr 3, arI E 12 r.2.2.2.2.1), (rr 4, arI E 96 r.2.2.2.2.2)] [(ox 0, noO ox rr rk rt rb xt kp), (rr 0, avO rr r.1 r.2.1), (rr 1, arI E 12 r.2.2.1), (rr 2, arI E 12 r.2.2.2.1), (rr 3, arI E 12 r.2.2.2.2.1), (rr 4, arI E 96 r.2.2.2.2.2)] r.1 := by
  refine CI.of (own := RX3) (cc := cX3_now) (nL := 2) (rt := (some .int)) (by decide) rfl rfl (Nat.le_of_ble_eq_true rfl) (fun X hX hQ => ?_)
  show G E X 2 0 [(0, .ref (ox 0)), (1, .int 0)] [] [(ox 0, noO ox rr rk rt rb xt kp), (rr 0, avO rr r.1 r.2.1), (rr 1, arI E 12 r.2.2.1), (rr 2, arI E 12 r.2.2.2.1), (rr 3, arI E 12 r.2.2.2.2.1), (rr 4, arI E 96 r.2.2.2.2.2)]
  refine G.iload_n hX 1 rfl dX3_now_0 ?_
  refine G.tin hX (tgt := 40) dX3_now_1 (by decide) (by decide) rfl (by decide) ?_
  refine G.aload_n hX 0 rfl dX3_now_40 ?_
  refine G.get hX inc_X3_now_3 0 rfl rfl 0 (by decide) (by decide +kernel) rfl dX3_now_41 ?_
  refine G.get hX inc_X3_now_0 1 rfl rfl 0 (by decide) (by decide +kernel) rfl dX3_now_44 ?_
  exact G.iret hX hQ dX3_now_47 (by rfl) (by rfl)
set_option maxHeartbeats 4000000 in
set_option maxRecDepth 100000 in
theorem c_X3_now1 (l : Launch) (E : EV) (r : AV) (ox : Nat → Nat) (rr : Nat → Nat) (rk : Nat → Nat) (rt : Nat → Nat) (rb : Nat → Nat) (xt : Nat → Nat) (kp : Int32)  : CI l yX3_now wsX3_now rmX3_now E [.ref (ox 0), .int 1] [(ox 0, noO ox rr rk rt rb xt kp), (rr 0, avO rr r.1 r.2.1), (rr 1, arI E 12 r.2.2.1), (rr 2, arI E 12 r.2.2.2.1), (rr 3, arI E 12 r.2.2.2.2.1), (rr 4, arI E 96 r.2.2.2.2.2)] [(ox 0, noO ox rr rk rt rb xt kp), (rr 0, avO rr r.1 r.2.1), (rr 1, arI E 12 r.2.2.1), (rr 2, arI E 12 r.2.2.2.1), (rr 3, arI E 12 r.2.2.2.2.1), (rr 4, arI E 96 r.2.2.2.2.2)] r.2.1 := by
  refine CI.of (own := RX3) (cc := cX3_now) (nL := 2) (rt := (some .int)) (by decide) rfl rfl (Nat.le_of_ble_eq_true rfl) (fun X hX hQ => ?_)
  show G E X 2 0 [(0, .ref (ox 0)), (1, .int 1)] [] [(ox 0, noO ox rr rk rt rb xt kp), (rr 0, avO rr r.1 r.2.1), (rr 1, arI E 12 r.2.2.1), (rr 2, arI E 12 r.2.2.2.1), (rr 3, arI E 12 r.2.2.2.2.1), (rr 4, arI E 96 r.2.2.2.2.2)]
  refine G.iload_n hX 1 rfl dX3_now_0 ?_
  refine G.tin hX (tgt := 48) dX3_now_1 (by decide) (by decide) rfl (by decide) ?_
  refine G.aload_n hX 0 rfl dX3_now_48 ?_
  refine G.get hX inc_X3_now_3 0 rfl rfl 0 (by decide) (by decide +kernel) rfl dX3_now_49 ?_
  refine G.get hX inc_X3_now_0 1 rfl rfl 1 (by decide) (by decide +kernel) rfl dX3_now_52 ?_
  exact G.iret hX hQ dX3_now_55 (by rfl) (by rfl)
set_option maxHeartbeats 4000000 in
set_option maxRecDepth 100000 in
theorem c_X3_now2 (l : Launch) (E : EV) (r : AV) (ox : Nat → Nat) (rr : Nat → Nat) (rk : Nat → Nat) (rt : Nat → Nat) (rb : Nat → Nat) (xt : Nat → Nat) (kp : Int32)  : CI l yX3_now wsX3_now rmX3_now E [.ref (ox 0), .int 2] [(ox 0, noO ox rr rk rt rb xt kp), (rr 0, avO rr r.1 r.2.1), (rr 1, arI E 12 r.2.2.1), (rr 2, arI E 12 r.2.2.2.1), (rr 3, arI E 12 r.2.2.2.2.1), (rr 4, arI E 96 r.2.2.2.2.2)] [(ox 0, noO ox rr rk rt rb xt kp), (rr 0, avO rr r.1 r.2.1), (rr 1, arI E 12 r.2.2.1), (rr 2, arI E 12 r.2.2.2.1), (rr 3, arI E 12 r.2.2.2.2.1), (rr 4, arI E 96 r.2.2.2.2.2)] (av_home r) := by
  refine CI.of (own := RX3) (cc := cX3_now) (nL := 2) (rt := (some .int)) (by decide) rfl rfl (Nat.le_of_ble_eq_true rfl) (fun X hX hQ => ?_)
  show G E X 2 0 [(0, .ref (ox 0)), (1, .int 2)] [] [(ox 0, noO ox rr rk rt rb xt kp), (rr 0, avO rr r.1 r.2.1), (rr 1, arI E 12 r.2.2.1), (rr 2, arI E 12 r.2.2.2.1), (rr 3, arI E 12 r.2.2.2.2.1), (rr 4, arI E 96 r.2.2.2.2.2)]
  refine G.iload_n hX 1 rfl dX3_now_0 ?_
  refine G.tin hX (tgt := 56) dX3_now_1 (by decide) (by decide) rfl (by decide) ?_
  refine G.aload_n hX 0 rfl dX3_now_56 ?_
  refine G.get hX inc_X3_now_3 0 rfl rfl 0 (by decide) (by decide +kernel) rfl dX3_now_57 ?_
  refine G.vi hX (As := []) (st := []) (wr := [(ox 0, noO ox rr rk rt rb xt kp)]) (wf := [(ox 0, noO ox rr rk rt rb xt kp), (rr 0, avO rr r.1 r.2.1), (rr 1, arI E 12 r.2.2.1), (rr 2, arI E 12 r.2.2.2.1), (rr 3, arI E 12 r.2.2.2.2.1), (rr 4, arI E 96 r.2.2.2.2.2)]) (q0 := 0) (ci := 0) rfl rfl (c_X0_knownAtTerrace _ E (q := r) (a := rr) ) gX3_now_X0_knownAtTerrace cp_X0_knownAtTerrace (by decide) [1, 2, 3, 4, 5] [0] [0, 1, 2, 3, 4, 5] ⟨rfl, rfl, by decide, rfl⟩ rfl rfl (Nat.le_of_ble_eq_true rfl) dX3_now_60 ?_
  exact G.iret hX hQ dX3_now_63 (by rfl) (by rfl)
set_option maxHeartbeats 4000000 in
set_option maxRecDepth 100000 in
theorem c_X3_now3 (l : Launch) (E : EV) (r : AV) (ox : Nat → Nat) (rr : Nat → Nat) (rk : Nat → Nat) (rt : Nat → Nat) (rb : Nat → Nat) (xt : Nat → Nat) (kp : Int32)  : CI l yX3_now wsX3_now rmX3_now E [.ref (ox 0), .int 3] [(ox 0, noO ox rr rk rt rb xt kp), (rr 0, avO rr r.1 r.2.1), (rr 1, arI E 12 r.2.2.1), (rr 2, arI E 12 r.2.2.2.1), (rr 3, arI E 12 r.2.2.2.2.1), (rr 4, arI E 96 r.2.2.2.2.2)] [(ox 0, noO ox rr rk rt rb xt kp), (rr 0, avO rr r.1 r.2.1), (rr 1, arI E 12 r.2.2.1), (rr 2, arI E 12 r.2.2.2.1), (rr 3, arI E 12 r.2.2.2.2.1), (rr 4, arI E 96 r.2.2.2.2.2)] (av_any r) := by
  refine CI.of (own := RX3) (cc := cX3_now) (nL := 2) (rt := (some .int)) (by decide) rfl rfl (Nat.le_of_ble_eq_true rfl) (fun X hX hQ => ?_)
  show G E X 2 0 [(0, .ref (ox 0)), (1, .int 3)] [] [(ox 0, noO ox rr rk rt rb xt kp), (rr 0, avO rr r.1 r.2.1), (rr 1, arI E 12 r.2.2.1), (rr 2, arI E 12 r.2.2.2.1), (rr 3, arI E 12 r.2.2.2.2.1), (rr 4, arI E 96 r.2.2.2.2.2)]
  refine G.iload_n hX 1 rfl dX3_now_0 ?_
  refine G.tin hX (tgt := 64) dX3_now_1 (by decide) (by decide) rfl (by decide) ?_
  refine G.aload_n hX 0 rfl dX3_now_64 ?_
  refine G.get hX inc_X3_now_3 0 rfl rfl 0 (by decide) (by decide +kernel) rfl dX3_now_65 ?_
  refine G.vi hX (As := []) (st := []) (wr := [(ox 0, noO ox rr rk rt rb xt kp)]) (wf := [(ox 0, noO ox rr rk rt rb xt kp), (rr 0, avO rr r.1 r.2.1), (rr 1, arI E 12 r.2.2.1), (rr 2, arI E 12 r.2.2.2.1), (rr 3, arI E 12 r.2.2.2.2.1), (rr 4, arI E 96 r.2.2.2.2.2)]) (q0 := 0) (ci := 0) rfl rfl (c_X0_knownByAny _ E (q := r) (a := rr) ) gX3_now_X0_knownByAny cp_X0_knownByAny (by decide) [1, 2, 3, 4, 5] [0] [0, 1, 2, 3, 4, 5] ⟨rfl, rfl, by decide, rfl⟩ rfl rfl (Nat.le_of_ble_eq_true rfl) dX3_now_68 ?_
  exact G.iret hX hQ dX3_now_71 (by rfl) (by rfl)
set_option maxHeartbeats 4000000 in
set_option maxRecDepth 100000 in
theorem c_X3_now4 (l : Launch) (E : EV) (r : AV) (ox : Nat → Nat) (rr : Nat → Nat) (rk : Nat → Nat) (rt : Nat → Nat) (rb : Nat → Nat) (xt : Nat → Nat) (kp : Int32)  : CI l yX3_now wsX3_now rmX3_now E [.ref (ox 0), .int 4] [(ox 0, noO ox rr rk rt rb xt kp), (rr 0, avO rr r.1 r.2.1), (rr 1, arI E 12 r.2.2.1), (rr 2, arI E 12 r.2.2.2.1), (rr 3, arI E 12 r.2.2.2.2.1), (rr 4, arI E 96 r.2.2.2.2.2)] [(ox 0, noO ox rr rk rt rb xt kp), (rr 0, avO rr r.1 r.2.1), (rr 1, arI E 12 r.2.2.1), (rr 2, arI E 12 r.2.2.2.1), (rr 3, arI E 12 r.2.2.2.2.1), (rr 4, arI E 96 r.2.2.2.2.2)] (av_all r) := by
  refine CI.of (own := RX3) (cc := cX3_now) (nL := 2) (rt := (some .int)) (by decide) rfl rfl (Nat.le_of_ble_eq_true rfl) (fun X hX hQ => ?_)
  show G E X 2 0 [(0, .ref (ox 0)), (1, .int 4)] [] [(ox 0, noO ox rr rk rt rb xt kp), (rr 0, avO rr r.1 r.2.1), (rr 1, arI E 12 r.2.2.1), (rr 2, arI E 12 r.2.2.2.1), (rr 3, arI E 12 r.2.2.2.2.1), (rr 4, arI E 96 r.2.2.2.2.2)]
  refine G.iload_n hX 1 rfl dX3_now_0 ?_
  refine G.tin hX (tgt := 72) dX3_now_1 (by decide) (by decide) rfl (by decide) ?_
  refine G.aload_n hX 0 rfl dX3_now_72 ?_
  refine G.get hX inc_X3_now_3 0 rfl rfl 0 (by decide) (by decide +kernel) rfl dX3_now_73 ?_
  refine G.vi hX (As := []) (st := []) (wr := [(ox 0, noO ox rr rk rt rb xt kp)]) (wf := [(ox 0, noO ox rr rk rt rb xt kp), (rr 0, avO rr r.1 r.2.1), (rr 1, arI E 12 r.2.2.1), (rr 2, arI E 12 r.2.2.2.1), (rr 3, arI E 12 r.2.2.2.2.1), (rr 4, arI E 96 r.2.2.2.2.2)]) (q0 := 0) (ci := 0) rfl rfl (c_X0_knownInAll _ E (q := r) (a := rr) ) gX3_now_X0_knownInAll cp_X0_knownInAll (by decide) [1, 2, 3, 4, 5] [0] [0, 1, 2, 3, 4, 5] ⟨rfl, rfl, by decide, rfl⟩ rfl rfl (Nat.le_of_ble_eq_true rfl) dX3_now_76 ?_
  exact G.iret hX hQ dX3_now_79 (by rfl) (by rfl)
set_option maxHeartbeats 4000000 in
set_option maxRecDepth 100000 in
theorem c_X3_now5 (l : Launch) (E : EV) (r : AV) (ox : Nat → Nat) (rr : Nat → Nat) (rk : Nat → Nat) (rt : Nat → Nat) (rb : Nat → Nat) (xt : Nat → Nat) (kp : Int32)  : CI l yX3_now wsX3_now rmX3_now E [.ref (ox 0), .int 5] [(ox 0, noO ox rr rk rt rb xt kp), (rr 0, avO rr r.1 r.2.1), (rr 1, arI E 12 r.2.2.1), (rr 2, arI E 12 r.2.2.2.1), (rr 3, arI E 12 r.2.2.2.2.1), (rr 4, arI E 96 r.2.2.2.2.2)] [(ox 0, noO ox rr rk rt rb xt kp), (rr 0, avO rr r.1 r.2.1), (rr 1, arI E 12 r.2.2.1), (rr 2, arI E 12 r.2.2.2.1), (rr 3, arI E 12 r.2.2.2.2.1), (rr 4, arI E 96 r.2.2.2.2.2)] (av_ag r) := by
  refine CI.of (own := RX3) (cc := cX3_now) (nL := 2) (rt := (some .int)) (by decide) rfl rfl (Nat.le_of_ble_eq_true rfl) (fun X hX hQ => ?_)
  show G E X 2 0 [(0, .ref (ox 0)), (1, .int 5)] [] [(ox 0, noO ox rr rk rt rb xt kp), (rr 0, avO rr r.1 r.2.1), (rr 1, arI E 12 r.2.2.1), (rr 2, arI E 12 r.2.2.2.1), (rr 3, arI E 12 r.2.2.2.2.1), (rr 4, arI E 96 r.2.2.2.2.2)]
  refine G.iload_n hX 1 rfl dX3_now_0 ?_
  refine G.tin hX (tgt := 80) dX3_now_1 (by decide) (by decide) rfl (by decide) ?_
  refine G.aload_n hX 0 rfl dX3_now_80 ?_
  refine G.get hX inc_X3_now_3 0 rfl rfl 0 (by decide) (by decide +kernel) rfl dX3_now_81 ?_
  refine G.vi hX (As := []) (st := []) (wr := [(ox 0, noO ox rr rk rt rb xt kp)]) (wf := [(ox 0, noO ox rr rk rt rb xt kp), (rr 0, avO rr r.1 r.2.1), (rr 1, arI E 12 r.2.2.1), (rr 2, arI E 12 r.2.2.2.1), (rr 3, arI E 12 r.2.2.2.2.1), (rr 4, arI E 96 r.2.2.2.2.2)]) (q0 := 0) (ci := 0) rfl rfl (c_X0_agesTogether _ E (q := r) (a := rr) ) gX3_now_X0_agesTogether cp_X0_agesTogether (by decide) [1, 2, 3, 4, 5] [0] [0, 1, 2, 3, 4, 5] ⟨rfl, rfl, by decide, rfl⟩ rfl rfl (Nat.le_of_ble_eq_true rfl) dX3_now_84 ?_
  exact G.iret hX hQ dX3_now_87 (by rfl) (by rfl)
set_option maxHeartbeats 4000000 in
set_option maxRecDepth 100000 in
theorem c_X3_nowbad (l : Launch) (E : EV) (x : Int32) (ox : Nat → Nat) (rr : Nat → Nat) (rk : Nat → Nat) (rt : Nat → Nat) (rb : Nat → Nat) (xt : Nat → Nat) (kp : Int32) (fo : Nat → Int32) (h1 : ¬ x = 0) (h2 : ¬ x = 1) (h3 : ¬ x = 2) (h4 : ¬ x = 3) (h5 : ¬ x = 4) (h6 : ¬ x = 5) : CI l yX3_now wsX3_now rmX3_now E [.ref (ox 0), .int x] [(ox 0, noO ox rr rk rt rb xt kp), (ox 3, arI E 7 fo)] [(ox 0, noO ox rr rk rt rb xt kp), (ox 3, arI E 7 (upd fo 0 (fo 0 + 1)))] ((-1000000001)) := by
  refine CI.of (own := RX3) (cc := cX3_now) (nL := 2) (rt := (some .int)) (by decide) rfl rfl (Nat.le_of_ble_eq_true rfl) (fun X hX hQ => ?_)
  show G E X 2 0 [(0, .ref (ox 0)), (1, .int x)] [] [(ox 0, noO ox rr rk rt rb xt kp), (ox 3, arI E 7 fo)]
  refine G.iload_n hX 1 rfl dX3_now_0 ?_
  refine G.ie (y := x) rfl ?_
  by_cases c1_0 : x = 0
  · refine G.ie (y := 0) c1_0 ?_
    refine G.tin hX (tgt := 40) dX3_now_1 (by decide) (by decide) rfl (by decide) ?_
    exact absurd c1_0 h1
  by_cases c1_1 : x = 1
  · refine G.ie (y := 1) c1_1 ?_
    refine G.tin hX (tgt := 48) dX3_now_1 (by decide) (by decide) rfl (by decide) ?_
    exact absurd c1_1 h2
  by_cases c1_2 : x = 2
  · refine G.ie (y := 2) c1_2 ?_
    refine G.tin hX (tgt := 56) dX3_now_1 (by decide) (by decide) rfl (by decide) ?_
    exact absurd c1_2 h3
  by_cases c1_3 : x = 3
  · refine G.ie (y := 3) c1_3 ?_
    refine G.tin hX (tgt := 64) dX3_now_1 (by decide) (by decide) rfl (by decide) ?_
    exact absurd c1_3 h4
  by_cases c1_4 : x = 4
  · refine G.ie (y := 4) c1_4 ?_
    refine G.tin hX (tgt := 72) dX3_now_1 (by decide) (by decide) rfl (by decide) ?_
    exact absurd c1_4 h5
  by_cases c1_5 : x = 5
  · refine G.ie (y := 5) c1_5 ?_
    refine G.tin hX (tgt := 80) dX3_now_1 (by decide) (by decide) rfl (by decide) ?_
    exact absurd c1_5 h6
  refine G.tout hX (tgt := 88) dX3_now_1 (by have t0 := ne_toInt c1_0; have t1 := ne_toInt c1_1; have t2 := ne_toInt c1_2; have t3 := ne_toInt c1_3; have t4 := ne_toInt c1_4; have t5 := ne_toInt c1_5; simp at t0 t1 t2 t3 t4 t5; omega) (by decide) ?_
  refine G.aload_n hX 0 rfl dX3_now_88 ?_
  refine G.iconst hX (v := 0) (by decide) dX3_now_89 ?_
  refine G.vi hX (As := [.int 0]) (st := []) (wr := []) (wf := [(ox 0, noO ox rr rk rt rb xt kp), (ox 3, arI E 7 (upd fo 0 (fo 0 + 1)))]) (q0 := 0) (ci := 3) rfl rfl (c_X3_finding0 _ E (ox := ox) (rr := rr) (rk := rk) (rt := rt) (rb := rb) (xt := xt) (kp := kp) (fo := fo) ) gX3_now_X3_finding cp_X3_finding (by decide) [0, 1] [] [0, 1] ⟨rfl, rfl, by decide, rfl⟩ rfl rfl (Nat.le_of_ble_eq_true rfl) dX3_now_90 ?_
  exact G.iret hX hQ dX3_now_93 (by rfl) (by rfl)
abbrev rmX3_on : Room := { frames := 5, cells := 0, slots := 0, locals := 121 }
theorem cp_X3_on : CP yX3_on RX3 wsX3_on 3 2 rmX3_on := ⟨⟨_, _, _, rfl⟩, rfl, rfl, by decide +kernel⟩
theorem inc_X3_on_0 : ∀ w ∈ u_ws RX0 TX0 6, w ∈ wsX3_on := by decide +kernel
theorem inc_X3_on_3 : ∀ w ∈ u_ws RX3 TX3 9, w ∈ wsX3_on := by decide +kernel
set_option maxHeartbeats 4000000 in
set_option maxRecDepth 100000 in
theorem c_X3_onbad (l : Launch) (E : EV) (x : Int32) (y : Int32) (ox : Nat → Nat) (rr : Nat → Nat) (rk : Nat → Nat) (rt : Nat → Nat) (rb : Nat → Nat) (xt : Nat → Nat) (kp : Int32) (fo : Nat → Int32) (h1 : (cIn 12 x && cTo 200 y) = false) : CI l yX3_on wsX3_on rmX3_on E [.ref (ox 0), .int x, .int y] [(ox 0, noO ox rr rk rt rb xt kp), (ox 3, arI E 7 fo)] [(ox 0, noO ox rr rk rt rb xt kp), (ox 3, arI E 7 (upd fo 0 (fo 0 + 1)))] ((-1000000001)) := by
  refine CI.of (own := RX3) (cc := cX3_on) (nL := 3) (rt := (some .int)) (by decide) rfl rfl (Nat.le_of_ble_eq_true rfl) (fun X hX hQ => ?_)
  show G E X 3 0 [(0, .ref (ox 0)), (1, .int x), (2, .int y)] [] [(ox 0, noO ox rr rk rt rb xt kp), (ox 3, arI E 7 fo)]
  refine G.iload_n hX 1 rfl dX3_on_0 ?_
  refine G.s0i hX (As := [.int x]) (st := []) (c_X3_isTree _ E (x := x) ) gX3_on_X3_isTree cp_X3_isTree (by decide) rfl rfl (Nat.le_of_ble_eq_true rfl) dX3_on_1 ?_
  refine G.b_eq hX (tgt := 18) (by decide) dX3_on_4 (fun c4 => ?_) (fun c4 => ?_)
  · refine G.aload_n hX 0 rfl dX3_on_18 ?_
    refine G.iconst hX (v := 0) (by decide) dX3_on_19 ?_
    refine G.vi hX (As := [.int 0]) (st := []) (wr := []) (wf := [(ox 0, noO ox rr rk rt rb xt kp), (ox 3, arI E 7 (upd fo 0 (fo 0 + 1)))]) (q0 := 0) (ci := 3) rfl rfl (c_X3_finding0 _ E (ox := ox) (rr := rr) (rk := rk) (rt := rt) (rb := rb) (xt := xt) (kp := kp) (fo := fo) ) gX3_on_X3_finding cp_X3_finding (by decide) [0, 1] [] [0, 1] ⟨rfl, rfl, by decide, rfl⟩ rfl rfl (Nat.le_of_ble_eq_true rfl) dX3_on_20 ?_
    exact G.iret hX hQ dX3_on_23 (by rfl) (by rfl)
  · refine G.iload_n hX 2 rfl dX3_on_7 ?_
    refine G.if_lt hX (tgt := 18) (by decide) dX3_on_8 (fun c8 => ?_) (fun c8 => ?_)
    · refine G.aload_n hX 0 rfl dX3_on_18 ?_
      refine G.iconst hX (v := 0) (by decide) dX3_on_19 ?_
      refine G.vi hX (As := [.int 0]) (st := []) (wr := []) (wf := [(ox 0, noO ox rr rk rt rb xt kp), (ox 3, arI E 7 (upd fo 0 (fo 0 + 1)))]) (q0 := 0) (ci := 3) rfl rfl (c_X3_finding0 _ E (ox := ox) (rr := rr) (rk := rk) (rt := rt) (rb := rb) (xt := xt) (kp := kp) (fo := fo) ) gX3_on_X3_finding cp_X3_finding (by decide) [0, 1] [] [0, 1] ⟨rfl, rfl, by decide, rfl⟩ rfl rfl (Nat.le_of_ble_eq_true rfl) dX3_on_20 ?_
      exact G.iret hX hQ dX3_on_23 (by rfl) (by rfl)
    · refine G.iload_n hX 2 rfl dX3_on_11 ?_
      refine G.sipush hX (v := 200) (by decide) dX3_on_12 ?_
      refine G.icmp_le hX (tgt := 24) (by decide) dX3_on_15 (fun c15 => ?_) (fun c15 => ?_)
      · exact absurd h1 (by simp [cTo, cYe, c4, c8, c15])
      · refine G.aload_n hX 0 rfl dX3_on_18 ?_
        refine G.iconst hX (v := 0) (by decide) dX3_on_19 ?_
        refine G.vi hX (As := [.int 0]) (st := []) (wr := []) (wf := [(ox 0, noO ox rr rk rt rb xt kp), (ox 3, arI E 7 (upd fo 0 (fo 0 + 1)))]) (q0 := 0) (ci := 3) rfl rfl (c_X3_finding0 _ E (ox := ox) (rr := rr) (rk := rk) (rt := rt) (rb := rb) (xt := xt) (kp := kp) (fo := fo) ) gX3_on_X3_finding cp_X3_finding (by decide) [0, 1] [] [0, 1] ⟨rfl, rfl, by decide, rfl⟩ rfl rfl (Nat.le_of_ble_eq_true rfl) dX3_on_20 ?_
        exact G.iret hX hQ dX3_on_23 (by rfl) (by rfl)
set_option maxHeartbeats 4000000 in
set_option maxRecDepth 100000 in
theorem c_X3_onok (l : Launch) (E : EV) (t : Nat) (n0 : Nat) (r : AV) (tr : AV) (ox : Nat → Nat) (rr : Nat → Nat) (rk : Nat → Nat) (rt : Nat → Nat) (rb : Nat → Nat) (xt : Nat → Nat) (kp : Int32) (h1 : t < 12) (h2 : n0 ≤ 200) : CI l yX3_on wsX3_on rmX3_on E [.ref (ox 0), .int (nI t), .int (nI n0)] [(ox 0, noO ox rr rk rt rb xt kp), (rr 0, avO rr r.1 r.2.1), (rr 1, arI E 12 r.2.2.1), (rr 2, arI E 12 r.2.2.2.1), (rr 3, arI E 12 r.2.2.2.2.1), (rr 4, arI E 96 r.2.2.2.2.2), (rt 0, avO rt tr.1 tr.2.1), (rt 1, arI E 12 tr.2.2.1), (rt 2, arI E 12 tr.2.2.2.1), (rt 3, arI E 12 tr.2.2.2.2.1), (rt 4, arI E 96 tr.2.2.2.2.2)] [(ox 0, noO ox rr rk rt rb xt kp), (rr 0, avO rr r.1 r.2.1), (rr 1, arI E 12 r.2.2.1), (rr 2, arI E 12 r.2.2.2.1), (rr 3, arI E 12 r.2.2.2.2.1), (rr 4, arI E 96 r.2.2.2.2.2), (rt 0, avO rt ((av_ys 255 n0 r).1) ((av_ys 255 n0 r).2.1)), (rt 1, arI E 12 ((av_ys 255 n0 r).2.2.1)), (rt 2, arI E 12 ((av_ys 255 n0 r).2.2.2.1)), (rt 3, arI E 12 ((av_ys 255 n0 r).2.2.2.2.1)), (rt 4, arI E 96 ((av_ys 255 n0 r).2.2.2.2.2))] ((av_ys 255 n0 r).2.2.2.2.1 t) := by
  refine CI.of (own := RX3) (cc := cX3_on) (nL := 3) (rt := (some .int)) (by decide) rfl rfl (Nat.le_of_ble_eq_true rfl) (fun X hX hQ => ?_)
  show G E X 3 0 [(0, .ref (ox 0)), (1, .int (nI t)), (2, .int (nI n0))] [] [(ox 0, noO ox rr rk rt rb xt kp), (rr 0, avO rr r.1 r.2.1), (rr 1, arI E 12 r.2.2.1), (rr 2, arI E 12 r.2.2.2.1), (rr 3, arI E 12 r.2.2.2.2.1), (rr 4, arI E 96 r.2.2.2.2.2), (rt 0, avO rt tr.1 tr.2.1), (rt 1, arI E 12 tr.2.2.1), (rt 2, arI E 12 tr.2.2.2.1), (rt 3, arI E 12 tr.2.2.2.2.1), (rt 4, arI E 96 tr.2.2.2.2.2)]
  refine G.iload_n hX 1 rfl dX3_on_0 ?_
  refine G.s0i hX (As := [.int (nI t)]) (st := []) (c_X3_isTreen _ E (x := t) (h1 := by omega)) gX3_on_X3_isTree cp_X3_isTree (by decide) rfl rfl (Nat.le_of_ble_eq_true rfl) dX3_on_1 ?_
  refine G.if_eq hX (tgt := 18) (by decide) dX3_on_4 (fun c4 => absurd c4 (by decide)) (fun _ => ?_)
  refine G.iload_n hX 2 rfl dX3_on_7 ?_
  refine G.if_lt hX (tgt := 18) (by decide) dX3_on_8 (fun c8 => absurd c8 (nI_pos (by omega))) (fun _ => ?_)
  refine G.iload_n hX 2 rfl dX3_on_11 ?_
  refine G.sipush hX (v := 200) (by decide) dX3_on_12 ?_
  refine G.n_le hX (a := n0) (b := 200) (tgt := 24) (by omega) (by omega) (by decide) dX3_on_15 (fun c15 => ?_) (fun c15 => ?_)
  · refine G.aload_n hX 0 rfl dX3_on_24 ?_
    refine G.vv hX (As := []) (st := []) (wr := []) (wf := [(ox 0, noO ox rr rk rt rb xt kp), (rr 0, avO rr r.1 r.2.1), (rr 1, arI E 12 r.2.2.1), (rr 2, arI E 12 r.2.2.2.1), (rr 3, arI E 12 r.2.2.2.2.1), (rr 4, arI E 96 r.2.2.2.2.2), (rt 0, avO rt r.1 r.2.1), (rt 1, arI E 12 r.2.2.1), (rt 2, arI E 12 r.2.2.2.1), (rt 3, arI E 12 r.2.2.2.2.1), (rt 4, arI E 96 r.2.2.2.2.2)]) (q0 := 0) (ci := 3) rfl rfl (c_X3_suppose _ E (r := r) (tr := tr) (ox := ox) (rr := rr) (rk := rk) (rt := rt) (rb := rb) (xt := xt) (kp := kp) ) gX3_on_X3_suppose cp_X3_suppose (by decide) [0, 1, 2, 3, 4, 5, 6, 7, 8, 9, 10] [] [0, 1, 2, 3, 4, 5, 6, 7, 8, 9, 10] ⟨rfl, rfl, by decide, rfl⟩ rfl rfl (Nat.le_of_ble_eq_true rfl) dX3_on_25 ?_
    refine G.aload_n hX 0 rfl dX3_on_28 ?_
    refine G.get hX inc_X3_on_3 0 rfl rfl 2 (by decide) (by decide +kernel) rfl dX3_on_29 ?_
    refine G.iload_n hX 2 rfl dX3_on_32 ?_
    refine G.vv hX (As := [.int (nI n0)]) (st := []) (wr := [(ox 0, noO ox rr rk rt rb xt kp), (rr 0, avO rr r.1 r.2.1), (rr 1, arI E 12 r.2.2.1), (rr 2, arI E 12 r.2.2.2.1), (rr 3, arI E 12 r.2.2.2.2.1), (rr 4, arI E 96 r.2.2.2.2.2)]) (wf := [(ox 0, noO ox rr rk rt rb xt kp), (rr 0, avO rr r.1 r.2.1), (rr 1, arI E 12 r.2.2.1), (rr 2, arI E 12 r.2.2.2.1), (rr 3, arI E 12 r.2.2.2.2.1), (rr 4, arI E 96 r.2.2.2.2.2), (rt 0, avO rt ((av_ys 255 n0 r).1) ((av_ys 255 n0 r).2.1)), (rt 1, arI E 12 ((av_ys 255 n0 r).2.2.1)), (rt 2, arI E 12 ((av_ys 255 n0 r).2.2.2.1)), (rt 3, arI E 12 ((av_ys 255 n0 r).2.2.2.2.1)), (rt 4, arI E 96 ((av_ys 255 n0 r).2.2.2.2.2))]) (q0 := 0) (ci := 0) rfl rfl (c_X0_passYears _ E (q := r) (n0 := n0) (a := rt) (h1 := by omega)) gX3_on_X0_passYears cp_X0_passYears (by decide) [6, 7, 8, 9, 10] [0, 1, 2, 3, 4, 5] [0, 1, 2, 3, 4, 5, 6, 7, 8, 9, 10] ⟨rfl, rfl, by decide, rfl⟩ rfl rfl (Nat.le_of_ble_eq_true rfl) dX3_on_33 ?_
    refine G.aload_n hX 0 rfl dX3_on_36 ?_
    refine G.get hX inc_X3_on_3 0 rfl rfl 2 (by decide) (by decide +kernel) rfl dX3_on_37 ?_
    refine G.get hX inc_X3_on_0 6 rfl rfl 4 (by decide) (by decide +kernel) rfl dX3_on_40 ?_
    refine G.iload_n hX 1 rfl dX3_on_43 ?_
    refine G.iald hX (j := t) 9 rfl (by omega) (by omega) dX3_on_44 ?_
    exact G.iret hX hQ dX3_on_45 (by first | rfl | (simp only [c15, ↓reduceIte, Bool.not_true, Bool.not_false, Bool.and_true, Bool.true_and, Bool.and_false, Bool.false_and, Bool.or_true, Bool.true_or, Bool.or_false, Bool.false_or, decide_true, decide_false, not_true_eq_false, not_false_eq_true, Bool.false_eq_true, Bool.true_eq_false]; done) | (simp only [c15, ↓reduceIte, Bool.not_true, Bool.not_false, Bool.and_true, Bool.true_and, Bool.and_false, Bool.false_and, Bool.or_true, Bool.true_or, Bool.or_false, Bool.false_or, decide_true, decide_false, not_true_eq_false, not_false_eq_true, Bool.false_eq_true, Bool.true_eq_false]; rfl) | (simp [c15]; done)) (by rfl)
  · exact absurd h2 (by omega)
abbrev rmX3_when : Room := { frames := 5, cells := 0, slots := 0, locals := 144 }
theorem cp_X3_when : CP yX3_when RX3 wsX3_when 3 2 rmX3_when := ⟨⟨_, _, _, rfl⟩, rfl, rfl, by decide +kernel⟩
theorem inc_X3_when_3 : ∀ w ∈ u_ws RX3 TX3 9, w ∈ wsX3_when := by decide +kernel
set_option maxHeartbeats 4000000 in
set_option maxRecDepth 100000 in
theorem c_X3_whenbad (l : Launch) (E : EV) (x : Int32) (y : Int32) (ox : Nat → Nat) (rr : Nat → Nat) (rk : Nat → Nat) (rt : Nat → Nat) (rb : Nat → Nat) (xt : Nat → Nat) (kp : Int32) (fo : Nat → Int32) (h1 : (cIn 12 x && cIn 8 y) = false) : CI l yX3_when wsX3_when rmX3_when E [.ref (ox 0), .int x, .int y] [(ox 0, noO ox rr rk rt rb xt kp), (ox 3, arI E 7 fo)] [(ox 0, noO ox rr rk rt rb xt kp), (ox 3, arI E 7 (upd fo 0 (fo 0 + 1)))] ((-1000000001)) := by
  refine CI.of (own := RX3) (cc := cX3_when) (nL := 3) (rt := (some .int)) (by decide) rfl rfl (Nat.le_of_ble_eq_true rfl) (fun X hX hQ => ?_)
  show G E X 3 0 [(0, .ref (ox 0)), (1, .int x), (2, .int y)] [] [(ox 0, noO ox rr rk rt rb xt kp), (ox 3, arI E 7 fo)]
  refine G.iload_n hX 1 rfl dX3_when_0 ?_
  refine G.s0i hX (As := [.int x]) (st := []) (c_X3_isTree _ E (x := x) ) gX3_when_X3_isTree cp_X3_isTree (by decide) rfl rfl (Nat.le_of_ble_eq_true rfl) dX3_when_1 ?_
  refine G.b_eq hX (tgt := 14) (by decide) dX3_when_4 (fun c4 => ?_) (fun c4 => ?_)
  · refine G.aload_n hX 0 rfl dX3_when_14 ?_
    refine G.iconst hX (v := 0) (by decide) dX3_when_15 ?_
    refine G.vi hX (As := [.int 0]) (st := []) (wr := []) (wf := [(ox 0, noO ox rr rk rt rb xt kp), (ox 3, arI E 7 (upd fo 0 (fo 0 + 1)))]) (q0 := 0) (ci := 3) rfl rfl (c_X3_finding0 _ E (ox := ox) (rr := rr) (rk := rk) (rt := rt) (rb := rb) (xt := xt) (kp := kp) (fo := fo) ) gX3_when_X3_finding cp_X3_finding (by decide) [0, 1] [] [0, 1] ⟨rfl, rfl, by decide, rfl⟩ rfl rfl (Nat.le_of_ble_eq_true rfl) dX3_when_16 ?_
    exact G.iret hX hQ dX3_when_19 (by rfl) (by rfl)
  · refine G.iload_n hX 2 rfl dX3_when_7 ?_
    refine G.s0i hX (As := [.int y]) (st := []) (c_X3_isMessage _ E (x := y) ) gX3_when_X3_isMessage cp_X3_isMessage (by decide) rfl rfl (Nat.le_of_ble_eq_true rfl) dX3_when_8 ?_
    refine G.b_ne hX (tgt := 20) (by decide) dX3_when_11 (fun c11 => ?_) (fun c11 => ?_)
    · exact absurd h1 (by simp [cTo, cYe, c4, c11])
    · refine G.aload_n hX 0 rfl dX3_when_14 ?_
      refine G.iconst hX (v := 0) (by decide) dX3_when_15 ?_
      refine G.vi hX (As := [.int 0]) (st := []) (wr := []) (wf := [(ox 0, noO ox rr rk rt rb xt kp), (ox 3, arI E 7 (upd fo 0 (fo 0 + 1)))]) (q0 := 0) (ci := 3) rfl rfl (c_X3_finding0 _ E (ox := ox) (rr := rr) (rk := rk) (rt := rt) (rb := rb) (xt := xt) (kp := kp) (fo := fo) ) gX3_when_X3_finding cp_X3_finding (by decide) [0, 1] [] [0, 1] ⟨rfl, rfl, by decide, rfl⟩ rfl rfl (Nat.le_of_ble_eq_true rfl) dX3_when_16 ?_
      exact G.iret hX hQ dX3_when_19 (by rfl) (by rfl)
set_option maxHeartbeats 4000000 in
set_option maxRecDepth 100000 in
theorem c_X3_whenok (l : Launch) (E : EV) (t : Nat) (m : Nat) (r : AV) (tr : AV) (ox : Nat → Nat) (rr : Nat → Nat) (rk : Nat → Nat) (rt : Nat → Nat) (rb : Nat → Nat) (xt : Nat → Nat) (kp : Int32) (li : Nat → Int32) (fo : Nat → Int32) (h1 : t < 12) (h2 : m < 8) (h3 : ¬ liR r m 201 t = 201) : CI l yX3_when wsX3_when rmX3_when E [.ref (ox 0), .int (nI t), .int (nI m)] [(ox 0, noO ox rr rk rt rb xt kp), (rr 0, avO rr r.1 r.2.1), (rr 1, arI E 12 r.2.2.1), (rr 2, arI E 12 r.2.2.2.1), (rr 3, arI E 12 r.2.2.2.2.1), (rr 4, arI E 96 r.2.2.2.2.2), (rt 0, avO rt tr.1 tr.2.1), (rt 1, arI E 12 tr.2.2.1), (rt 2, arI E 12 tr.2.2.2.1), (rt 3, arI E 12 tr.2.2.2.2.1), (rt 4, arI E 96 tr.2.2.2.2.2), (ox 1, arI E 12 li), (ox 3, arI E 7 fo)] [(ox 0, noO ox rr rk rt rb xt kp), (rr 0, avO rr r.1 r.2.1), (rr 1, arI E 12 r.2.2.1), (rr 2, arI E 12 r.2.2.2.1), (rr 3, arI E 12 r.2.2.2.2.1), (rr 4, arI E 96 r.2.2.2.2.2), (rt 0, avO rt ((av_ys (1 <<< (nI m &&& 31)) 201 r).1) ((av_ys (1 <<< (nI m &&& 31)) 201 r).2.1)), (rt 1, arI E 12 ((av_ys (1 <<< (nI m &&& 31)) 201 r).2.2.1)), (rt 2, arI E 12 ((av_ys (1 <<< (nI m &&& 31)) 201 r).2.2.2.1)), (rt 3, arI E 12 ((av_ys (1 <<< (nI m &&& 31)) 201 r).2.2.2.2.1)), (rt 4, arI E 96 ((av_ys (1 <<< (nI m &&& 31)) 201 r).2.2.2.2.2)), (ox 1, arI E 12 (liR r m 201)), (ox 3, arI E 7 fo)] (liR r m 201 t) := by
  refine CI.of (own := RX3) (cc := cX3_when) (nL := 3) (rt := (some .int)) (by decide) rfl rfl (Nat.le_of_ble_eq_true rfl) (fun X hX hQ => ?_)
  show G E X 3 0 [(0, .ref (ox 0)), (1, .int (nI t)), (2, .int (nI m))] [] [(ox 0, noO ox rr rk rt rb xt kp), (rr 0, avO rr r.1 r.2.1), (rr 1, arI E 12 r.2.2.1), (rr 2, arI E 12 r.2.2.2.1), (rr 3, arI E 12 r.2.2.2.2.1), (rr 4, arI E 96 r.2.2.2.2.2), (rt 0, avO rt tr.1 tr.2.1), (rt 1, arI E 12 tr.2.2.1), (rt 2, arI E 12 tr.2.2.2.1), (rt 3, arI E 12 tr.2.2.2.2.1), (rt 4, arI E 96 tr.2.2.2.2.2), (ox 1, arI E 12 li), (ox 3, arI E 7 fo)]
  refine G.iload_n hX 1 rfl dX3_when_0 ?_
  refine G.s0i hX (As := [.int (nI t)]) (st := []) (c_X3_isTreen _ E (x := t) (h1 := by omega)) gX3_when_X3_isTree cp_X3_isTree (by decide) rfl rfl (Nat.le_of_ble_eq_true rfl) dX3_when_1 ?_
  refine G.if_eq hX (tgt := 14) (by decide) dX3_when_4 (fun c4 => absurd c4 (by decide)) (fun _ => ?_)
  refine G.iload_n hX 2 rfl dX3_when_7 ?_
  refine G.s0i hX (As := [.int (nI m)]) (st := []) (c_X3_isMessagen _ E (x := m) (h1 := by omega)) gX3_when_X3_isMessage cp_X3_isMessage (by decide) rfl rfl (Nat.le_of_ble_eq_true rfl) dX3_when_8 ?_
  refine G.if_ne hX (tgt := 20) (by decide) dX3_when_11 (fun _ => ?_) (fun c11 => absurd c11 (by decide))
  refine G.aload_n hX 0 rfl dX3_when_20 ?_
  refine G.iload_n hX 2 rfl dX3_when_21 ?_
  refine G.vv hX (As := [.int (nI m)]) (st := []) (wr := [(ox 3, arI E 7 fo)]) (wf := [(ox 0, noO ox rr rk rt rb xt kp), (rr 0, avO rr r.1 r.2.1), (rr 1, arI E 12 r.2.2.1), (rr 2, arI E 12 r.2.2.2.1), (rr 3, arI E 12 r.2.2.2.2.1), (rr 4, arI E 96 r.2.2.2.2.2), (rt 0, avO rt ((av_ys (1 <<< (nI m &&& 31)) 201 r).1) ((av_ys (1 <<< (nI m &&& 31)) 201 r).2.1)), (rt 1, arI E 12 ((av_ys (1 <<< (nI m &&& 31)) 201 r).2.2.1)), (rt 2, arI E 12 ((av_ys (1 <<< (nI m &&& 31)) 201 r).2.2.2.1)), (rt 3, arI E 12 ((av_ys (1 <<< (nI m &&& 31)) 201 r).2.2.2.2.1)), (rt 4, arI E 96 ((av_ys (1 <<< (nI m &&& 31)) 201 r).2.2.2.2.2)), (ox 1, arI E 12 (liR r m 201)), (ox 3, arI E 7 fo)]) (q0 := 0) (ci := 3) rfl rfl (c_X3_findLearntIn _ E (m := m) (r := r) (tr := tr) (ox := ox) (rr := rr) (rk := rk) (rt := rt) (rb := rb) (xt := xt) (kp := kp) (li := li) (h1 := by omega)) gX3_when_X3_findLearntIn cp_X3_findLearntIn (by decide) [0, 1, 2, 3, 4, 5, 6, 7, 8, 9, 10, 11] [12] [1, 2, 3, 4, 5, 6, 7, 8, 9, 10, 11, 12, 0] ⟨rfl, rfl, by decide, rfl⟩ rfl rfl (Nat.le_of_ble_eq_true rfl) dX3_when_22 ?_
  refine G.aload_n hX 0 rfl dX3_when_25 ?_
  refine G.get hX inc_X3_when_3 0 rfl rfl 4 (by decide) (by decide +kernel) rfl dX3_when_26 ?_
  refine G.iload_n hX 1 rfl dX3_when_29 ?_
  refine G.iald hX (j := t) 11 rfl (by omega) (by omega) dX3_when_30 ?_
  refine G.sipush hX (v := 201) (by decide) dX3_when_31 ?_
  refine G.icmp_ne hX (tgt := 45) (by decide) dX3_when_34 (fun c34 => ?_) (fun c34 => ?_)
  · refine G.aload_n hX 0 rfl dX3_when_45 ?_
    refine G.get hX inc_X3_when_3 0 rfl rfl 4 (by decide) (by decide +kernel) rfl dX3_when_46 ?_
    refine G.iload_n hX 1 rfl dX3_when_49 ?_
    refine G.iald hX (j := t) 11 rfl (by omega) (by omega) dX3_when_50 ?_
    exact G.iret hX hQ dX3_when_51 (by first | rfl | (simp only [c34, ↓reduceIte, Bool.not_true, Bool.not_false, Bool.and_true, Bool.true_and, Bool.and_false, Bool.false_and, Bool.or_true, Bool.true_or, Bool.or_false, Bool.false_or, decide_true, decide_false, not_true_eq_false, not_false_eq_true, Bool.false_eq_true, Bool.true_eq_false]; done) | (simp only [c34, ↓reduceIte, Bool.not_true, Bool.not_false, Bool.and_true, Bool.true_and, Bool.and_false, Bool.false_and, Bool.or_true, Bool.true_or, Bool.or_false, Bool.false_or, decide_true, decide_false, not_true_eq_false, not_false_eq_true, Bool.false_eq_true, Bool.true_eq_false]; rfl) | (simp [c34]; done)) (by rfl)
  · exact absurd c34 h3
set_option maxHeartbeats 4000000 in
set_option maxRecDepth 100000 in
theorem c_X3_whenno (l : Launch) (E : EV) (t : Nat) (m : Nat) (r : AV) (tr : AV) (ox : Nat → Nat) (rr : Nat → Nat) (rk : Nat → Nat) (rt : Nat → Nat) (rb : Nat → Nat) (xt : Nat → Nat) (kp : Int32) (li : Nat → Int32) (fo : Nat → Int32) (h1 : t < 12) (h2 : m < 8) (h3 : liR r m 201 t = 201) : CI l yX3_when wsX3_when rmX3_when E [.ref (ox 0), .int (nI t), .int (nI m)] [(ox 0, noO ox rr rk rt rb xt kp), (rr 0, avO rr r.1 r.2.1), (rr 1, arI E 12 r.2.2.1), (rr 2, arI E 12 r.2.2.2.1), (rr 3, arI E 12 r.2.2.2.2.1), (rr 4, arI E 96 r.2.2.2.2.2), (rt 0, avO rt tr.1 tr.2.1), (rt 1, arI E 12 tr.2.2.1), (rt 2, arI E 12 tr.2.2.2.1), (rt 3, arI E 12 tr.2.2.2.2.1), (rt 4, arI E 96 tr.2.2.2.2.2), (ox 1, arI E 12 li), (ox 3, arI E 7 fo)] [(ox 0, noO ox rr rk rt rb xt kp), (rr 0, avO rr r.1 r.2.1), (rr 1, arI E 12 r.2.2.1), (rr 2, arI E 12 r.2.2.2.1), (rr 3, arI E 12 r.2.2.2.2.1), (rr 4, arI E 96 r.2.2.2.2.2), (rt 0, avO rt ((av_ys (1 <<< (nI m &&& 31)) 201 r).1) ((av_ys (1 <<< (nI m &&& 31)) 201 r).2.1)), (rt 1, arI E 12 ((av_ys (1 <<< (nI m &&& 31)) 201 r).2.2.1)), (rt 2, arI E 12 ((av_ys (1 <<< (nI m &&& 31)) 201 r).2.2.2.1)), (rt 3, arI E 12 ((av_ys (1 <<< (nI m &&& 31)) 201 r).2.2.2.2.1)), (rt 4, arI E 96 ((av_ys (1 <<< (nI m &&& 31)) 201 r).2.2.2.2.2)), (ox 1, arI E 12 (liR r m 201)), (ox 3, arI E 7 (upd fo 3 (fo 3 + 1)))] ((-1000000004)) := by
  refine CI.of (own := RX3) (cc := cX3_when) (nL := 3) (rt := (some .int)) (by decide) rfl rfl (Nat.le_of_ble_eq_true rfl) (fun X hX hQ => ?_)
  show G E X 3 0 [(0, .ref (ox 0)), (1, .int (nI t)), (2, .int (nI m))] [] [(ox 0, noO ox rr rk rt rb xt kp), (rr 0, avO rr r.1 r.2.1), (rr 1, arI E 12 r.2.2.1), (rr 2, arI E 12 r.2.2.2.1), (rr 3, arI E 12 r.2.2.2.2.1), (rr 4, arI E 96 r.2.2.2.2.2), (rt 0, avO rt tr.1 tr.2.1), (rt 1, arI E 12 tr.2.2.1), (rt 2, arI E 12 tr.2.2.2.1), (rt 3, arI E 12 tr.2.2.2.2.1), (rt 4, arI E 96 tr.2.2.2.2.2), (ox 1, arI E 12 li), (ox 3, arI E 7 fo)]
  refine G.iload_n hX 1 rfl dX3_when_0 ?_
  refine G.s0i hX (As := [.int (nI t)]) (st := []) (c_X3_isTreen _ E (x := t) (h1 := by omega)) gX3_when_X3_isTree cp_X3_isTree (by decide) rfl rfl (Nat.le_of_ble_eq_true rfl) dX3_when_1 ?_
  refine G.if_eq hX (tgt := 14) (by decide) dX3_when_4 (fun c4 => absurd c4 (by decide)) (fun _ => ?_)
  refine G.iload_n hX 2 rfl dX3_when_7 ?_
  refine G.s0i hX (As := [.int (nI m)]) (st := []) (c_X3_isMessagen _ E (x := m) (h1 := by omega)) gX3_when_X3_isMessage cp_X3_isMessage (by decide) rfl rfl (Nat.le_of_ble_eq_true rfl) dX3_when_8 ?_
  refine G.if_ne hX (tgt := 20) (by decide) dX3_when_11 (fun _ => ?_) (fun c11 => absurd c11 (by decide))
  refine G.aload_n hX 0 rfl dX3_when_20 ?_
  refine G.iload_n hX 2 rfl dX3_when_21 ?_
  refine G.vv hX (As := [.int (nI m)]) (st := []) (wr := [(ox 3, arI E 7 fo)]) (wf := [(ox 0, noO ox rr rk rt rb xt kp), (rr 0, avO rr r.1 r.2.1), (rr 1, arI E 12 r.2.2.1), (rr 2, arI E 12 r.2.2.2.1), (rr 3, arI E 12 r.2.2.2.2.1), (rr 4, arI E 96 r.2.2.2.2.2), (rt 0, avO rt ((av_ys (1 <<< (nI m &&& 31)) 201 r).1) ((av_ys (1 <<< (nI m &&& 31)) 201 r).2.1)), (rt 1, arI E 12 ((av_ys (1 <<< (nI m &&& 31)) 201 r).2.2.1)), (rt 2, arI E 12 ((av_ys (1 <<< (nI m &&& 31)) 201 r).2.2.2.1)), (rt 3, arI E 12 ((av_ys (1 <<< (nI m &&& 31)) 201 r).2.2.2.2.1)), (rt 4, arI E 96 ((av_ys (1 <<< (nI m &&& 31)) 201 r).2.2.2.2.2)), (ox 1, arI E 12 (liR r m 201)), (ox 3, arI E 7 fo)]) (q0 := 0) (ci := 3) rfl rfl (c_X3_findLearntIn _ E (m := m) (r := r) (tr := tr) (ox := ox) (rr := rr) (rk := rk) (rt := rt) (rb := rb) (xt := xt) (kp := kp) (li := li) (h1 := by omega)) gX3_when_X3_findLearntIn cp_X3_findLearntIn (by decide) [0, 1, 2, 3, 4, 5, 6, 7, 8, 9, 10, 11] [12] [1, 2, 3, 4, 5, 6, 7, 8, 9, 10, 11, 12, 0] ⟨rfl, rfl, by decide, rfl⟩ rfl rfl (Nat.le_of_ble_eq_true rfl) dX3_when_22 ?_
  refine G.aload_n hX 0 rfl dX3_when_25 ?_
  refine G.get hX inc_X3_when_3 0 rfl rfl 4 (by decide) (by decide +kernel) rfl dX3_when_26 ?_
  refine G.iload_n hX 1 rfl dX3_when_29 ?_
  refine G.iald hX (j := t) 11 rfl (by omega) (by omega) dX3_when_30 ?_
  refine G.sipush hX (v := 201) (by decide) dX3_when_31 ?_
  refine G.icmp_ne hX (tgt := 45) (by decide) dX3_when_34 (fun c34 => ?_) (fun c34 => ?_)
  · exact absurd h3 c34
  · refine G.aload_n hX 0 rfl dX3_when_37 ?_
    refine G.iconst hX (v := 3) (by decide) dX3_when_38 ?_
    refine G.vi hX (As := [.int 3]) (st := []) (wr := [(rr 0, avO rr r.1 r.2.1), (rr 1, arI E 12 r.2.2.1), (rr 2, arI E 12 r.2.2.2.1), (rr 3, arI E 12 r.2.2.2.2.1), (rr 4, arI E 96 r.2.2.2.2.2), (rt 0, avO rt ((av_ys (1 <<< (nI m &&& 31)) 201 r).1) ((av_ys (1 <<< (nI m &&& 31)) 201 r).2.1)), (rt 1, arI E 12 ((av_ys (1 <<< (nI m &&& 31)) 201 r).2.2.1)), (rt 2, arI E 12 ((av_ys (1 <<< (nI m &&& 31)) 201 r).2.2.2.1)), (rt 3, arI E 12 ((av_ys (1 <<< (nI m &&& 31)) 201 r).2.2.2.2.1)), (rt 4, arI E 96 ((av_ys (1 <<< (nI m &&& 31)) 201 r).2.2.2.2.2)), (ox 1, arI E 12 (liR r m 201))]) (wf := [(ox 0, noO ox rr rk rt rb xt kp), (rr 0, avO rr r.1 r.2.1), (rr 1, arI E 12 r.2.2.1), (rr 2, arI E 12 r.2.2.2.1), (rr 3, arI E 12 r.2.2.2.2.1), (rr 4, arI E 96 r.2.2.2.2.2), (rt 0, avO rt ((av_ys (1 <<< (nI m &&& 31)) 201 r).1) ((av_ys (1 <<< (nI m &&& 31)) 201 r).2.1)), (rt 1, arI E 12 ((av_ys (1 <<< (nI m &&& 31)) 201 r).2.2.1)), (rt 2, arI E 12 ((av_ys (1 <<< (nI m &&& 31)) 201 r).2.2.2.1)), (rt 3, arI E 12 ((av_ys (1 <<< (nI m &&& 31)) 201 r).2.2.2.2.1)), (rt 4, arI E 96 ((av_ys (1 <<< (nI m &&& 31)) 201 r).2.2.2.2.2)), (ox 1, arI E 12 (liR r m 201)), (ox 3, arI E 7 (upd fo 3 (fo 3 + 1)))]) (q0 := 0) (ci := 3) rfl rfl (c_X3_finding3 _ E (ox := ox) (rr := rr) (rk := rk) (rt := rt) (rb := rb) (xt := xt) (kp := kp) (fo := fo) ) gX3_when_X3_finding cp_X3_finding (by decide) [0, 12] [1, 2, 3, 4, 5, 6, 7, 8, 9, 10, 11] [11, 0, 1, 2, 3, 4, 5, 6, 7, 8, 9, 10, 12] ⟨rfl, rfl, by decide, rfl⟩ rfl rfl (Nat.le_of_ble_eq_true rfl) dX3_when_39 ?_
    refine G.goto hX (tgt := 51) (by decide) dX3_when_42 ?_
    exact G.iret hX hQ dX3_when_51 (by rfl) (by rfl)
