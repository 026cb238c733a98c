abbrev rmX3_image : Room := { frames := 2, cells := 0, slots := 0, locals := 101 }
theorem cp_X3_image : CP yX3_image RX3 wsX3_image 1 0 rmX3_image := ⟨⟨_, _, _, rfl⟩, rfl, rfl, by decide +kernel⟩
theorem inc_X3_image_3 : ∀ w ∈ u_ws RX3 TX3 9, w ∈ wsX3_image := by decide +kernel
set_option maxHeartbeats 4000000 in
set_option maxRecDepth 100000 in
theorem c_X3_image (l : Launch) (E : EV) (r : AV) (ke : AV) (ox : Nat → Nat) (rr : Nat → Nat) (rk : Nat → Nat) (rt : Nat → Nat) (rb : Nat → Nat) (xt : Nat → Nat) (kp : Int32)  : CI l yX3_image wsX3_image rmX3_image E [.ref (ox 0)] [(ox 0, noO ox rr rk rt rb xt kp), (rr 0, avO rr r.1 r.2.1), (rr 1, arI E 12 r.2.2.1), (rr 2, arI E 12 r.2.2.2.1), (rr 3, arI E 12 r.2.2.2.2.1), (rr 4, arI E 96 r.2.2.2.2.2), (rk 0, avO rk ke.1 ke.2.1), (rk 1, arI E 12 ke.2.2.1), (rk 2, arI E 12 ke.2.2.2.1), (rk 3, arI E 12 ke.2.2.2.2.1), (rk 4, arI E 96 ke.2.2.2.2.2)] [(ox 0, noO ox rr rk rt rb xt 1), (rr 0, avO rr r.1 r.2.1), (rr 1, arI E 12 r.2.2.1), (rr 2, arI E 12 r.2.2.2.1), (rr 3, arI E 12 r.2.2.2.2.1), (rr 4, arI E 96 r.2.2.2.2.2), (rk 0, avO rk r.1 r.2.1), (rk 1, arI E 12 r.2.2.1), (rk 2, arI E 12 r.2.2.2.1), (rk 3, arI E 12 r.2.2.2.2.1), (rk 4, arI E 96 r.2.2.2.2.2)] 1 := by
  refine CI.of (own := RX3) (cc := cX3_image) (nL := 1) (rt := (some .int)) (by decide) rfl rfl (Nat.le_of_ble_eq_true rfl) (fun X hX hQ => ?_)
  show G E X 1 0 [(0, .ref (ox 0))] [] [(ox 0, noO ox rr rk rt rb xt kp), (rr 0, avO rr r.1 r.2.1), (rr 1, arI E 12 r.2.2.1), (rr 2, arI E 12 r.2.2.2.1), (rr 3, arI E 12 r.2.2.2.2.1), (rr 4, arI E 96 r.2.2.2.2.2), (rk 0, avO rk ke.1 ke.2.1), (rk 1, arI E 12 ke.2.2.1), (rk 2, arI E 12 ke.2.2.2.1), (rk 3, arI E 12 ke.2.2.2.2.1), (rk 4, arI E 96 ke.2.2.2.2.2)]
  refine G.aload_n hX 0 rfl dX3_image_0 ?_
  refine G.get hX inc_X3_image_3 0 rfl rfl 1 (by decide) (by decide +kernel) rfl dX3_image_1 ?_
  refine G.aload_n hX 0 rfl dX3_image_4 ?_
  refine G.get hX inc_X3_image_3 0 rfl rfl 0 (by decide) (by decide +kernel) rfl dX3_image_5 ?_
  refine G.vv hX (As := [.ref (rr 0)]) (st := []) (wr := [(ox 0, noO ox rr rk rt rb xt kp)]) (wf := [(ox 0, noO ox rr rk rt rb xt kp), (rr 0, avO rr r.1 r.2.1), (rr 1, arI E 12 r.2.2.1), (rr 2, arI E 12 r.2.2.2.1), (rr 3, arI E 12 r.2.2.2.2.1), (rr 4, arI E 96 r.2.2.2.2.2), (rk 0, avO rk r.1 r.2.1), (rk 1, arI E 12 r.2.2.1), (rk 2, arI E 12 r.2.2.2.1), (rk 3, arI E 12 r.2.2.2.2.1), (rk 4, arI E 96 r.2.2.2.2.2)]) (q0 := 0) (ci := 0) rfl rfl (c_X0_become _ E (q := ke) (w := r) (a := rk) (b := rr) ) gX3_image_X0_become cp_X0_become (by decide) [6, 7, 8, 9, 10, 1, 2, 3, 4, 5] [0] [0, 6, 7, 8, 9, 10, 1, 2, 3, 4, 5] ⟨rfl, rfl, by decide, rfl⟩ rfl rfl (Nat.le_of_ble_eq_true rfl) dX3_image_8 ?_
  refine G.aload_n hX 0 rfl dX3_image_11 ?_
  refine G.iconst hX (v := 1) (by decide) dX3_image_12 ?_
  refine G.put hX (ws' := [(ox 0, noO ox rr rk rt rb xt 1), (rr 0, avO rr r.1 r.2.1), (rr 1, arI E 12 r.2.2.1), (rr 2, arI E 12 r.2.2.2.1), (rr 3, arI E 12 r.2.2.2.2.1), (rr 4, arI E 96 r.2.2.2.2.2), (rk 0, avO rk r.1 r.2.1), (rk 1, arI E 12 r.2.2.1), (rk 2, arI E 12 r.2.2.2.1), (rk 3, arI E 12 r.2.2.2.2.1), (rk 4, arI E 96 r.2.2.2.2.2)]) inc_X3_image_3 tyX3 tyX3_ok nmX3 0 rfl rfl 8 (by decide) (by decide +kernel) rfl (tyX3_ok 8 (by decide)) rfl rfl (Nat.le_of_ble_eq_true rfl) rfl rfl dX3_image_13 ?_
  refine G.iconst hX (v := 1) (by decide) dX3_image_16 ?_
  exact G.iret hX hQ dX3_image_17 (by rfl) (by rfl)
abbrev rmX3_undo : Room := { frames := 2, cells := 0, slots := 0, locals := 101 }
theorem cp_X3_undo : CP yX3_undo RX3 wsX3_undo 1 0 rmX3_undo := ⟨⟨_, _, _, rfl⟩, rfl, rfl, by decide +kernel⟩
theorem inc_X3_undo_0 : ∀ w ∈ u_ws RX0 TX0 6, w ∈ wsX3_undo := by decide +kernel
theorem inc_X3_undo_3 : ∀ w ∈ u_ws RX3 TX3 9, w ∈ wsX3_undo := by decide +kernel
set_option maxHeartbeats 4000000 in
set_option maxRecDepth 100000 in
theorem c_X3_undono (l : Launch) (E : EV) (ox : Nat → Nat) (rr : Nat → Nat) (rk : Nat → Nat) (rt : Nat → Nat) (rb : Nat → Nat) (xt : Nat → Nat) (fo : Nat → Int32)  : CI l yX3_undo wsX3_undo rmX3_undo E [.ref (ox 0)] [(ox 0, noO ox rr rk rt rb xt 0), (ox 3, arI E 7 fo)] [(ox 0, noO ox rr rk rt rb xt 0), (ox 3, arI E 7 (upd fo 3 (fo 3 + 1)))] ((-1000000004)) := by
  refine CI.of (own := RX3) (cc := cX3_undo) (nL := 1) (rt := (some .int)) (by decide) rfl rfl (Nat.le_of_ble_eq_true rfl) (fun X hX hQ => ?_)
  show G E X 1 0 [(0, .ref (ox 0))] [] [(ox 0, noO ox rr rk rt rb xt 0), (ox 3, arI E 7 fo)]
  refine G.aload_n hX 0 rfl dX3_undo_0 ?_
  refine G.get hX inc_X3_undo_3 0 rfl rfl 8 (by decide) (by decide +kernel) rfl dX3_undo_1 ?_
  refine G.if_ne hX (tgt := 13) (by decide) dX3_undo_4 (fun c4 => absurd c4 (by decide)) (fun _ => ?_)
  refine G.aload_n hX 0 rfl dX3_undo_7 ?_
  refine G.iconst hX (v := 3) (by decide) dX3_undo_8 ?_
  refine G.vi hX (As := [.int 3]) (st := []) (wr := []) (wf := [(ox 0, noO ox rr rk rt rb xt 0), (ox 3, arI E 7 (upd fo 3 (fo 3 + 1)))]) (q0 := 0) (ci := 3) rfl rfl (c_X3_finding3 _ E (ox := ox) (rr := rr) (rk := rk) (rt := rt) (rb := rb) (xt := xt) (kp := 0) (fo := fo) ) gX3_undo_X3_finding cp_X3_finding (by decide) [0, 1] [] [0, 1] ⟨rfl, rfl, by decide, rfl⟩ rfl rfl (Nat.le_of_ble_eq_true rfl) dX3_undo_9 ?_
  exact G.iret hX hQ dX3_undo_12 (by rfl) (by rfl)
set_option maxHeartbeats 4000000 in
set_option maxRecDepth 100000 in
theorem c_X3_undook (l : Launch) (E : EV) (r : AV) (ke : AV) (ox : Nat → Nat) (rr : Nat → Nat) (rk : Nat → Nat) (rt : Nat → Nat) (rb : Nat → Nat) (xt : Nat → Nat)  : CI l yX3_undo wsX3_undo rmX3_undo E [.ref (ox 0)] [(ox 0, noO ox rr rk rt rb xt 1), (rr 0, avO rr r.1 r.2.1), (rr 1, arI E 12 r.2.2.1), (rr 2, arI E 12 r.2.2.2.1), (rr 3, arI E 12 r.2.2.2.2.1), (rr 4, arI E 96 r.2.2.2.2.2), (rk 0, avO rk ke.1 ke.2.1), (rk 1, arI E 12 ke.2.2.1), (rk 2, arI E 12 ke.2.2.2.1), (rk 3, arI E 12 ke.2.2.2.2.1), (rk 4, arI E 96 ke.2.2.2.2.2)] [(ox 0, noO ox rr rk rt rb xt 1), (rr 0, avO rr ke.1 ke.2.1), (rr 1, arI E 12 ke.2.2.1), (rr 2, arI E 12 ke.2.2.2.1), (rr 3, arI E 12 ke.2.2.2.2.1), (rr 4, arI E 96 ke.2.2.2.2.2), (rk 0, avO rk ke.1 ke.2.1), (rk 1, arI E 12 ke.2.2.1), (rk 2, arI E 12 ke.2.2.2.1), (rk 3, arI E 12 ke.2.2.2.2.1), (rk 4, arI E 96 ke.2.2.2.2.2)] ke.1 := by
  refine CI.of (own := RX3) (cc := cX3_undo) (nL := 1) (rt := (some .int)) (by decide) rfl rfl (Nat.le_of_ble_eq_true rfl) (fun X hX hQ => ?_)
  show G E X 1 0 [(0, .ref (ox 0))] [] [(ox 0, noO ox rr rk rt rb xt 1), (rr 0, avO rr r.1 r.2.1), (rr 1, arI E 12 r.2.2.1), (rr 2, arI E 12 r.2.2.2.1), (rr 3, arI E 12 r.2.2.2.2.1), (rr 4, arI E 96 r.2.2.2.2.2), (rk 0, avO rk ke.1 ke.2.1), (rk 1, arI E 12 ke.2.2.1), (rk 2, arI E 12 ke.2.2.2.1), (rk 3, arI E 12 ke.2.2.2.2.1), (rk 4, arI E 96 ke.2.2.2.2.2)]
  refine G.aload_n hX 0 rfl dX3_undo_0 ?_
  refine G.get hX inc_X3_undo_3 0 rfl rfl 8 (by decide) (by decide +kernel) rfl dX3_undo_1 ?_
  refine G.if_ne hX (tgt := 13) (by decide) dX3_undo_4 (fun _ => ?_) (fun c4 => absurd c4 (by decide))
  refine G.aload_n hX 0 rfl dX3_undo_13 ?_
  refine G.get hX inc_X3_undo_3 0 rfl rfl 0 (by decide) (by decide +kernel) rfl dX3_undo_14 ?_
  refine G.aload_n hX 0 rfl dX3_undo_17 ?_
  refine G.get hX inc_X3_undo_3 0 rfl rfl 1 (by decide) (by decide +kernel) rfl dX3_undo_18 ?_
  refine G.vv hX (As := [.ref (rk 0)]) (st := []) (wr := [(ox 0, noO ox rr rk rt rb xt 1)]) (wf := [(ox 0, noO ox rr rk rt rb xt 1), (rr 0, avO rr ke.1 ke.2.1), (rr 1, arI E 12 ke.2.2.1), (rr 2, arI E 12 ke.2.2.2.1), (rr 3, arI E 12 ke.2.2.2.2.1), (rr 4, arI E 96 ke.2.2.2.2.2), (rk 0, avO rk ke.1 ke.2.1), (rk 1, arI E 12 ke.2.2.1), (rk 2, arI E 12 ke.2.2.2.1), (rk 3, arI E 12 ke.2.2.2.2.1), (rk 4, arI E 96 ke.2.2.2.2.2)]) (q0 := 0) (ci := 0) rfl rfl (c_X0_become _ E (q := r) (w := ke) (a := rr) (b := rk) ) gX3_undo_X0_become cp_X0_become (by decide) [1, 2, 3, 4, 5, 6, 7, 8, 9, 10] [0] [0, 1, 2, 3, 4, 5, 6, 7, 8, 9, 10] ⟨rfl, rfl, by decide, rfl⟩ rfl rfl (Nat.le_of_ble_eq_true rfl) dX3_undo_21 ?_
  refine G.aload_n hX 0 rfl dX3_undo_24 ?_
  refine G.get hX inc_X3_undo_3 0 rfl rfl 0 (by decide) (by decide +kernel) rfl dX3_undo_25 ?_
  refine G.get hX inc_X3_undo_0 1 rfl rfl 0 (by decide) (by decide +kernel) rfl dX3_undo_28 ?_
  exact G.iret hX hQ dX3_undo_31 (by rfl) (by rfl)
abbrev rmX3_tear : Room := { frames := 0, cells := 0, slots := 0, locals := 0 }
theorem cp_X3_tear : CP yX3_tear RX3 wsX3_tear 2 0 rmX3_tear := ⟨⟨_, _, _, rfl⟩, rfl, rfl, by decide +kernel⟩
theorem inc_X3_tear_3 : ∀ w ∈ u_ws RX3 TX3 9, w ∈ wsX3_tear := by decide +kernel
set_option maxHeartbeats 4000000 in
set_option maxRecDepth 100000 in
theorem c_X3_tear0 (l : Launch) (E : EV) (ox : Nat → Nat) (rr : Nat → Nat) (rk : Nat → Nat) (rt : Nat → Nat) (rb : Nat → Nat) (xt : Nat → Nat)  : CI l yX3_tear wsX3_tear rmX3_tear E [.ref (ox 0)] [(ox 0, noO ox rr rk rt rb xt 0)] [(ox 0, noO ox rr rk rt rb xt 0)] 0 := by
  refine CI.of (own := RX3) (cc := cX3_tear) (nL := 2) (rt := (some .int)) (by decide) rfl rfl (Nat.le_of_ble_eq_true rfl) (fun X hX hQ => ?_)
  show G E X 2 0 [(0, .ref (ox 0))] [] [(ox 0, noO ox rr rk rt rb xt 0)]
  refine G.aload_n hX 0 rfl dX3_tear_0 ?_
  refine G.get hX inc_X3_tear_3 0 rfl rfl 8 (by decide) (by decide +kernel) rfl dX3_tear_1 ?_
  refine G.if_eq hX (tgt := 11) (by decide) dX3_tear_4 (fun _ => ?_) (fun c4 => absurd c4 (by decide))
  refine G.iconst hX (v := 0) (by decide) dX3_tear_11 ?_
  refine G.istore_n hX (lv' := [(1, .int 0), (0, .ref (ox 0))]) rfl (by decide) rfl dX3_tear_12 ?_
  refine G.aload_n hX 1 rfl dX3_tear_13 ?_
  refine G.iconst hX (v := 0) (by decide) dX3_tear_14 ?_
  refine G.put hX (ws' := [(ox 0, noO ox rr rk rt rb xt 0)]) inc_X3_tear_3 tyX3 tyX3_ok nmX3 0 rfl rfl 8 (by decide) (by decide +kernel) rfl (tyX3_ok 8 (by decide)) rfl rfl (Nat.le_of_ble_eq_true rfl) rfl rfl dX3_tear_15 ?_
  refine G.iload_n hX 0 rfl dX3_tear_18 ?_
  exact G.iret hX hQ dX3_tear_19 (by rfl) (by rfl)
set_option maxHeartbeats 4000000 in
set_option maxRecDepth 100000 in
theorem c_X3_tear1 (l : Launch) (E : EV) (ox : Nat → Nat) (rr : Nat → Nat) (rk : Nat → Nat) (rt : Nat → Nat) (rb : Nat → Nat) (xt : Nat → Nat)  : CI l yX3_tear wsX3_tear rmX3_tear E [.ref (ox 0)] [(ox 0, noO ox rr rk rt rb xt 1)] [(ox 0, noO ox rr rk rt rb xt 0)] 1 := by
  refine CI.of (own := RX3) (cc := cX3_tear) (nL := 2) (rt := (some .int)) (by decide) rfl rfl (Nat.le_of_ble_eq_true rfl) (fun X hX hQ => ?_)
  show G E X 2 0 [(0, .ref (ox 0))] [] [(ox 0, noO ox rr rk rt rb xt 1)]
  refine G.aload_n hX 0 rfl dX3_tear_0 ?_
  refine G.get hX inc_X3_tear_3 0 rfl rfl 8 (by decide) (by decide +kernel) rfl dX3_tear_1 ?_
  refine G.if_eq hX (tgt := 11) (by decide) dX3_tear_4 (fun c4 => absurd c4 (by decide)) (fun _ => ?_)
  refine G.iconst hX (v := 1) (by decide) dX3_tear_7 ?_
  refine G.goto hX (tgt := 12) (by decide) dX3_tear_8 ?_
  refine G.istore_n hX (lv' := [(1, .int 1), (0, .ref (ox 0))]) rfl (by decide) rfl dX3_tear_12 ?_
  refine G.aload_n hX 1 rfl dX3_tear_13 ?_
  refine G.iconst hX (v := 0) (by decide) dX3_tear_14 ?_
  refine G.put hX (ws' := [(ox 0, noO ox rr rk rt rb xt 0)]) inc_X3_tear_3 tyX3 tyX3_ok nmX3 0 rfl rfl 8 (by decide) (by decide +kernel) rfl (tyX3_ok 8 (by decide)) rfl rfl (Nat.le_of_ble_eq_true rfl) rfl rfl dX3_tear_15 ?_
  refine G.iload_n hX 0 rfl dX3_tear_18 ?_
  exact G.iret hX hQ dX3_tear_19 (by rfl) (by rfl)
abbrev rmX3_count : Room := { frames := 1, cells := 0, slots := 0, locals := 22 }
theorem cp_X3_count : CP yX3_count RX3 wsX3_count 2 1 rmX3_count := ⟨⟨_, _, _, rfl⟩, rfl, rfl, by decide +kernel⟩
theorem inc_X3_count_0 : ∀ w ∈ u_ws RX0 TX0 6, w ∈ wsX3_count := by decide +kernel
theorem inc_X3_count_3 : ∀ w ∈ u_ws RX3 TX3 9, w ∈ wsX3_count := by decide +kernel
theorem inc_X3_count_2 : ∀ w ∈ u_ws RX2 TX2 6, w ∈ wsX3_count := by decide +kernel
set_option maxHeartbeats 4000000 in
set_option maxRecDepth 100000 in
theorem c_X3_count0 (l : Launch) (E : EV) (r : AV) (ox : Nat → Nat) (rr : Nat → Nat) (rk : Nat → Nat) (rt : Nat → Nat) (rb : Nat → Nat) (xt : Nat → Nat) (kp : Int32)  : CI l yX3_count wsX3_count rmX3_count E [.ref (ox 0), .int 0] [(ox 0, noO ox rr rk rt rb xt kp), (rr 0, avO rr r.1 r.2.1), (rr 1, arI E 12 r.2.2.1), (rr 2, arI E 12 r.2.2.2.1), (rr 3, arI E 12 r.2.2.2.2.1), (rr 4, arI E 96 r.2.2.2.2.2)] [(ox 0, noO ox rr rk rt rb xt kp), (rr 0, avO rr r.1 r.2.1), (rr 1, arI E 12 r.2.2.1), (rr 2, arI E 12 r.2.2.2.1), (rr 3, arI E 12 r.2.2.2.2.1), (rr 4, arI E 96 r.2.2.2.2.2)] (nI (av_nl r)) := by
  refine CI.of (own := RX3) (cc := cX3_count) (nL := 2) (rt := (some .int)) (by decide) rfl rfl (Nat.le_of_ble_eq_true rfl) (fun X hX hQ => ?_)
  show G E X 2 0 [(0, .ref (ox 0)), (1, .int 0)] [] [(ox 0, noO ox rr rk rt rb xt kp), (rr 0, avO rr r.1 r.2.1), (rr 1, arI E 12 r.2.2.1), (rr 2, arI E 12 r.2.2.2.1), (rr 3, arI E 12 r.2.2.2.2.1), (rr 4, arI E 96 r.2.2.2.2.2)]
  refine G.iload_n hX 1 rfl dX3_count_0 ?_
  refine G.tin hX (tgt := 32) dX3_count_1 (by decide) (by decide) rfl (by decide) ?_
  refine G.aload_n hX 0 rfl dX3_count_32 ?_
  refine G.get hX inc_X3_count_3 0 rfl rfl 0 (by decide) (by decide +kernel) rfl dX3_count_33 ?_
  refine G.vi hX (As := []) (st := []) (wr := [(ox 0, noO ox rr rk rt rb xt kp)]) (wf := [(ox 0, noO ox rr rk rt rb xt kp), (rr 0, avO rr r.1 r.2.1), (rr 1, arI E 12 r.2.2.1), (rr 2, arI E 12 r.2.2.2.1), (rr 3, arI E 12 r.2.2.2.2.1), (rr 4, arI E 96 r.2.2.2.2.2)]) (q0 := 0) (ci := 0) rfl rfl (c_X0_noLimes _ E (q := r) (a := rr) ) gX3_count_X0_noLimes cp_X0_noLimes (by decide) [1, 2, 3, 4, 5] [0] [0, 1, 2, 3, 4, 5] ⟨rfl, rfl, by decide, rfl⟩ rfl rfl (Nat.le_of_ble_eq_true rfl) dX3_count_36 ?_
  exact G.iret hX hQ dX3_count_39 (by rfl) (by rfl)
set_option maxHeartbeats 4000000 in
set_option maxRecDepth 100000 in
theorem c_X3_count1 (l : Launch) (E : EV) (ox : Nat → Nat) (rr : Nat → Nat) (rk : Nat → Nat) (rt : Nat → Nat) (rb : Nat → Nat) (xt : Nat → Nat) (kp : Int32) (ln : Int32) (sa : Int32) (en : Int32) (tp : Int32) (vl : Int32)  : CI l yX3_count wsX3_count rmX3_count E [.ref (ox 0), .int 1] [(ox 0, noO ox rr rk rt rb xt kp), (xt 0, txO xt ln sa en tp vl)] [(ox 0, noO ox rr rk rt rb xt kp), (xt 0, txO xt ln sa en tp vl)] ln := by
  refine CI.of (own := RX3) (cc := cX3_count) (nL := 2) (rt := (some .int)) (by decide) rfl rfl (Nat.le_of_ble_eq_true rfl) (fun X hX hQ => ?_)
  show G E X 2 0 [(0, .ref (ox 0)), (1, .int 1)] [] [(ox 0, noO ox rr rk rt rb xt kp), (xt 0, txO xt ln sa en tp vl)]
  refine G.iload_n hX 1 rfl dX3_count_0 ?_
  refine G.tin hX (tgt := 40) dX3_count_1 (by decide) (by decide) rfl (by decide) ?_
  refine G.aload_n hX 0 rfl dX3_count_40 ?_
  refine G.get hX inc_X3_count_3 0 rfl rfl 5 (by decide) (by decide +kernel) rfl dX3_count_41 ?_
  refine G.get hX inc_X3_count_2 1 rfl rfl 0 (by decide) (by decide +kernel) rfl dX3_count_44 ?_
  exact G.iret hX hQ dX3_count_47 (by rfl) (by rfl)
set_option maxHeartbeats 4000000 in
set_option maxRecDepth 100000 in
theorem c_X3_count2 (l : Launch) (E : EV) (r : AV) (ox : Nat → Nat) (rr : Nat → Nat) (rk : Nat → Nat) (rt : Nat → Nat) (rb : Nat → Nat) (xt : Nat → Nat) (kp : Int32)  : CI l yX3_count wsX3_count rmX3_count E [.ref (ox 0), .int 2] [(ox 0, noO ox rr rk rt rb xt kp), (rr 0, avO rr r.1 r.2.1), (rr 1, arI E 12 r.2.2.1), (rr 2, arI E 12 r.2.2.2.1), (rr 3, arI E 12 r.2.2.2.2.1), (rr 4, arI E 96 r.2.2.2.2.2)] [(ox 0, noO ox rr rk rt rb xt kp), (rr 0, avO rr r.1 r.2.1), (rr 1, arI E 12 r.2.2.1), (rr 2, arI E 12 r.2.2.2.1), (rr 3, arI E 12 r.2.2.2.2.1), (rr 4, arI E 96 r.2.2.2.2.2)] (bcI r.2.1) := by
  refine CI.of (own := RX3) (cc := cX3_count) (nL := 2) (rt := (some .int)) (by decide) rfl rfl (Nat.le_of_ble_eq_true rfl) (fun X hX hQ => ?_)
  show G E X 2 0 [(0, .ref (ox 0)), (1, .int 2)] [] [(ox 0, noO ox rr rk rt rb xt kp), (rr 0, avO rr r.1 r.2.1), (rr 1, arI E 12 r.2.2.1), (rr 2, arI E 12 r.2.2.2.1), (rr 3, arI E 12 r.2.2.2.2.1), (rr 4, arI E 96 r.2.2.2.2.2)]
  refine G.iload_n hX 1 rfl dX3_count_0 ?_
  refine G.tin hX (tgt := 48) dX3_count_1 (by decide) (by decide) rfl (by decide) ?_
  refine G.aload_n hX 0 rfl dX3_count_48 ?_
  refine G.get hX inc_X3_count_3 0 rfl rfl 0 (by decide) (by decide +kernel) rfl dX3_count_49 ?_
  refine G.get hX inc_X3_count_0 1 rfl rfl 1 (by decide) (by decide +kernel) rfl dX3_count_52 ?_
  refine G.s0i hX (As := [.int r.2.1]) (st := []) (c_J6_bitCount_0f7a4 _ E (x := r.2.1) ) gX3_count_J6_bitCount_0f7a4 cp_J6_bitCount_0f7a4 (by decide) rfl rfl (Nat.le_of_ble_eq_true rfl) dX3_count_55 ?_
  exact G.iret hX hQ dX3_count_58 (by rfl) (by rfl)
set_option maxHeartbeats 4000000 in
set_option maxRecDepth 100000 in
theorem c_X3_count3 (l : Launch) (E : EV) (r : AV) (ox : Nat → Nat) (rr : Nat → Nat) (rk : Nat → Nat) (rt : Nat → Nat) (rb : Nat → Nat) (xt : Nat → Nat) (kp : Int32)  : CI l yX3_count wsX3_count rmX3_count E [.ref (ox 0), .int 3] [(ox 0, noO ox rr rk rt rb xt kp), (rr 0, avO rr r.1 r.2.1), (rr 1, arI E 12 r.2.2.1), (rr 2, arI E 12 r.2.2.2.1), (rr 3, arI E 12 r.2.2.2.2.1), (rr 4, arI E 96 r.2.2.2.2.2)] [(ox 0, noO ox rr rk rt rb xt kp), (rr 0, avO rr r.1 r.2.1), (rr 1, arI E 12 r.2.2.1), (rr 2, arI E 12 r.2.2.2.1), (rr 3, arI E 12 r.2.2.2.2.1), (rr 4, arI E 96 r.2.2.2.2.2)] (nI (av_tt r)) := by
  refine CI.of (own := RX3) (cc := cX3_count) (nL := 2) (rt := (some .int)) (by decide) rfl rfl (Nat.le_of_ble_eq_true rfl) (fun X hX hQ => ?_)
  show G E X 2 0 [(0, .ref (ox 0)), (1, .int 3)] [] [(ox 0, noO ox rr rk rt rb xt kp), (rr 0, avO rr r.1 r.2.1), (rr 1, arI E 12 r.2.2.1), (rr 2, arI E 12 r.2.2.2.1), (rr 3, arI E 12 r.2.2.2.2.1), (rr 4, arI E 96 r.2.2.2.2.2)]
  refine G.iload_n hX 1 rfl dX3_count_0 ?_
  refine G.tin hX (tgt := 59) dX3_count_1 (by decide) (by decide) rfl (by decide) ?_
  refine G.aload_n hX 0 rfl dX3_count_59 ?_
  refine G.get hX inc_X3_count_3 0 rfl rfl 0 (by decide) (by decide +kernel) rfl dX3_count_60 ?_
  refine G.vi hX (As := []) (st := []) (wr := [(ox 0, noO ox rr rk rt rb xt kp)]) (wf := [(ox 0, noO ox rr rk rt rb xt kp), (rr 0, avO rr r.1 r.2.1), (rr 1, arI E 12 r.2.2.1), (rr 2, arI E 12 r.2.2.2.1), (rr 3, arI E 12 r.2.2.2.2.1), (rr 4, arI E 96 r.2.2.2.2.2)]) (q0 := 0) (ci := 0) rfl rfl (c_X0_treesThatKnow _ E (q := r) (a := rr) ) gX3_count_X0_treesThatKnow cp_X0_treesThatKnow (by decide) [1, 2, 3, 4, 5] [0] [0, 1, 2, 3, 4, 5] ⟨rfl, rfl, by decide, rfl⟩ rfl rfl (Nat.le_of_ble_eq_true rfl) dX3_count_63 ?_
  exact G.iret hX hQ dX3_count_66 (by rfl) (by rfl)
set_option maxHeartbeats 4000000 in
set_option maxRecDepth 100000 in
theorem c_X3_countbad (l : Launch) (E : EV) (x : Int32) (ox : Nat → Nat) (rr : Nat → Nat) (rk : Nat → Nat) (rt : Nat → Nat) (rb : Nat → Nat) (xt : Nat → Nat) (kp : Int32) (fo : Nat → Int32) (h1 : ¬ x = 0) (h2 : ¬ x = 1) (h3 : ¬ x = 2) (h4 : ¬ x = 3) : CI l yX3_count wsX3_count rmX3_count E [.ref (ox 0), .int x] [(ox 0, noO ox rr rk rt rb xt kp), (ox 3, arI E 7 fo)] [(ox 0, noO ox rr rk rt rb xt kp), (ox 3, arI E 7 (upd fo 0 (fo 0 + 1)))] ((-1000000001)) := by
  refine CI.of (own := RX3) (cc := cX3_count) (nL := 2) (rt := (some .int)) (by decide) rfl rfl (Nat.le_of_ble_eq_true rfl) (fun X hX hQ => ?_)
  show G E X 2 0 [(0, .ref (ox 0)), (1, .int x)] [] [(ox 0, noO ox rr rk rt rb xt kp), (ox 3, arI E 7 fo)]
  refine G.iload_n hX 1 rfl dX3_count_0 ?_
  refine G.ie (y := x) rfl ?_
  by_cases c1_0 : x = 0
  · refine G.ie (y := 0) c1_0 ?_
    refine G.tin hX (tgt := 32) dX3_count_1 (by decide) (by decide) rfl (by decide) ?_
    exact absurd c1_0 h1
  by_cases c1_1 : x = 1
  · refine G.ie (y := 1) c1_1 ?_
    refine G.tin hX (tgt := 40) dX3_count_1 (by decide) (by decide) rfl (by decide) ?_
    exact absurd c1_1 h2
  by_cases c1_2 : x = 2
  · refine G.ie (y := 2) c1_2 ?_
    refine G.tin hX (tgt := 48) dX3_count_1 (by decide) (by decide) rfl (by decide) ?_
    exact absurd c1_2 h3
  by_cases c1_3 : x = 3
  · refine G.ie (y := 3) c1_3 ?_
    refine G.tin hX (tgt := 59) dX3_count_1 (by decide) (by decide) rfl (by decide) ?_
    exact absurd c1_3 h4
  refine G.tout hX (tgt := 67) dX3_count_1 (by have t0 := ne_toInt c1_0; have t1 := ne_toInt c1_1; have t2 := ne_toInt c1_2; have t3 := ne_toInt c1_3; simp at t0 t1 t2 t3; omega) (by decide) ?_
  refine G.aload_n hX 0 rfl dX3_count_67 ?_
  refine G.iconst hX (v := 0) (by decide) dX3_count_68 ?_
  refine G.vi hX (As := [.int 0]) (st := []) (wr := []) (wf := [(ox 0, noO ox rr rk rt rb xt kp), (ox 3, arI E 7 (upd fo 0 (fo 0 + 1)))]) (q0 := 0) (ci := 3) rfl rfl (c_X3_finding0 _ E (ox := ox) (rr := rr) (rk := rk) (rt := rt) (rb := rb) (xt := xt) (kp := kp) (fo := fo) ) gX3_count_X3_finding cp_X3_finding (by decide) [0, 1] [] [0, 1] ⟨rfl, rfl, by decide, rfl⟩ rfl rfl (Nat.le_of_ble_eq_true rfl) dX3_count_69 ?_
  exact G.iret hX hQ dX3_count_72 (by rfl) (by rfl)
abbrev rmX3_status : Room := { frames := 1, cells := 0, slots := 0, locals := 21 }
theorem cp_X3_status : CP yX3_status RX3 wsX3_status 4 1 rmX3_status := ⟨⟨_, _, _, rfl⟩, rfl, rfl, by decide +kernel⟩
theorem inc_X3_status_3 : ∀ w ∈ u_ws RX3 TX3 9, w ∈ wsX3_status := by decide +kernel
set_option maxHeartbeats 4000000 in
set_option maxRecDepth 100000 in
theorem c_X3_statusbad (l : Launch) (E : EV) (x : Int32) (ox : Nat → Nat) (rr : Nat → Nat) (rk : Nat → Nat) (rt : Nat → Nat) (rb : Nat → Nat) (xt : Nat → Nat) (kp : Int32) (fo : Nat → Int32) (h1 : (!(decide (x < -1)) && decide (x < 7)) = false) : CI l yX3_status wsX3_status rmX3_status E [.ref (ox 0), .int x] [(ox 0, noO ox rr rk rt rb xt kp), (ox 3, arI E 7 fo)] [(ox 0, noO ox rr rk rt rb xt kp), (ox 3, arI E 7 (upd fo 0 (fo 0 + 1)))] ((-1000000001)) := by
  refine CI.of (own := RX3) (cc := cX3_status) (nL := 4) (rt := (some .int)) (by decide) rfl rfl (Nat.le_of_ble_eq_true rfl) (fun X hX hQ => ?_)
  show G E X 4 0 [(0, .ref (ox 0)), (1, .int x)] [] [(ox 0, noO ox rr rk rt rb xt kp), (ox 3, arI E 7 fo)]
  refine G.iload_n hX 1 rfl dX3_status_0 ?_
  refine G.iconst hX (v := -1) (by decide) dX3_status_1 ?_
  refine G.icmp_lt hX (tgt := 11) (by decide) dX3_status_2 (fun c2 => ?_) (fun c2 => ?_)
  · refine G.aload_n hX 0 rfl dX3_status_11 ?_
    refine G.iconst hX (v := 0) (by decide) dX3_status_12 ?_
    refine G.vi hX (As := [.int 0]) (st := []) (wr := []) (wf := [(ox 0, noO ox rr rk rt rb xt kp), (ox 3, arI E 7 (upd fo 0 (fo 0 + 1)))]) (q0 := 0) (ci := 3) rfl rfl (c_X3_finding0 _ E (ox := ox) (rr := rr) (rk := rk) (rt := rt) (rb := rb) (xt := xt) (kp := kp) (fo := fo) ) gX3_status_X3_finding cp_X3_finding (by decide) [0, 1] [] [0, 1] ⟨rfl, rfl, by decide, rfl⟩ rfl rfl (Nat.le_of_ble_eq_true rfl) dX3_status_13 ?_
    exact G.iret hX hQ dX3_status_16 (by rfl) (by rfl)
  · refine G.iload_n hX 1 rfl dX3_status_5 ?_
    refine G.bipush hX (v := 7) (by decide) dX3_status_6 ?_
    refine G.icmp_lt hX (tgt := 17) (by decide) dX3_status_8 (fun c8 => ?_) (fun c8 => ?_)
    · exact absurd h1 (by simp [c2, c8])
    · refine G.aload_n hX 0 rfl dX3_status_11 ?_
      refine G.iconst hX (v := 0) (by decide) dX3_status_12 ?_
      refine G.vi hX (As := [.int 0]) (st := []) (wr := []) (wf := [(ox 0, noO ox rr rk rt rb xt kp), (ox 3, arI E 7 (upd fo 0 (fo 0 + 1)))]) (q0 := 0) (ci := 3) rfl rfl (c_X3_finding0 _ E (ox := ox) (rr := rr) (rk := rk) (rt := rt) (rb := rb) (xt := xt) (kp := kp) (fo := fo) ) gX3_status_X3_finding cp_X3_finding (by decide) [0, 1] [] [0, 1] ⟨rfl, rfl, by decide, rfl⟩ rfl rfl (Nat.le_of_ble_eq_true rfl) dX3_status_13 ?_
      exact G.iret hX hQ dX3_status_16 (by rfl) (by rfl)
set_option maxHeartbeats 4000000 in
set_option maxRecDepth 100000 in
theorem c_X3_statusall (l : Launch) (E : EV) (ox : Nat → Nat) (rr : Nat → Nat) (rk : Nat → Nat) (rt : Nat → Nat) (rb : Nat → Nat) (xt : Nat → Nat) (kp : Int32) (fo : Nat → Int32)  : CI l yX3_status wsX3_status rmX3_status E [.ref (ox 0), .int ((-1))] [(ox 0, noO ox rr rk rt rb xt kp), (ox 3, arI E 7 fo)] [(ox 0, noO ox rr rk rt rb xt kp), (ox 3, arI E 7 fo)] (it (cStA fo) 7 0) := by
  refine CI.of (own := RX3) (cc := cX3_status) (nL := 4) (rt := (some .int)) (by decide) rfl rfl (Nat.le_of_ble_eq_true rfl) (fun X hX hQ => ?_)
  show G E X 4 0 [(0, .ref (ox 0)), (1, .int ((-1)))] [] [(ox 0, noO ox rr rk rt rb xt kp), (ox 3, arI E 7 fo)]
  refine G.iload_n hX 1 rfl dX3_status_0 ?_
  refine G.iconst hX (v := -1) (by decide) dX3_status_1 ?_
  refine G.icmp_lt hX (tgt := 11) (by decide) dX3_status_2 (fun c2 => absurd c2 (by decide)) (fun _ => ?_)
  refine G.iload_n hX 1 rfl dX3_status_5 ?_
  refine G.bipush hX (v := 7) (by decide) dX3_status_6 ?_
  refine G.icmp_lt hX (tgt := 17) (by decide) dX3_status_8 (fun _ => ?_) (fun c8 => absurd c8 (by decide))
  refine G.iload_n hX 1 rfl dX3_status_17 ?_
  refine G.if_lt hX (tgt := 28) (by decide) dX3_status_18 (fun _ => ?_) (fun c18 => absurd c18 (by decide))
  refine G.iconst hX (v := 0) (by decide) dX3_status_28 ?_
  refine G.istore_n hX (lv' := [(2, .int 0), (0, .ref (ox 0)), (1, .int ((-1)))]) rfl (by decide) rfl dX3_status_29 ?_
  refine G.iconst hX (v := 0) (by decide) dX3_status_30 ?_
  refine G.istore_n hX (lv' := [(3, .int 0), (2, .int 0), (0, .ref (ox 0)), (1, .int ((-1)))]) rfl (by decide) rfl dX3_status_31 ?_
  have L32 : ∀ (n : Nat) (k : Nat), k ≤ 7 → 8 ≤ k + n → G E X 4 32 [(0, .ref (ox 0)), (2, .int (it (cStA fo) k 0)), (3, .int (nI k))] [] [(ox 0, noO ox rr rk rt rb xt kp), (ox 3, arI E 7 fo)] := by
    intro n
    induction n with
    | zero => intro k hl32_0 hl32_1; exact absurd hl32_1 (by omega)
    | succ n ih32 =>
      intro k hl32_0 hl32_1
      refine G.iload_n hX 2 rfl dX3_status_32 ?_
      refine G.bipush hX (v := 7) (by decide) dX3_status_33 ?_
      refine G.n_ge hX (a := k) (b := 7) (tgt := 53) (by omega) (by omega) (by decide) dX3_status_35 (fun c35 => ?_) (fun c35 => ?_)
      · refine G.iload_n hX 1 rfl dX3_status_53 ?_
        exact G.iret hX hQ dX3_status_54 (by obtain rfl : k = 7 := (by omega); rfl) (by rfl)
      · refine G.iload_n hX 1 rfl dX3_status_38 ?_
        refine G.aload_n hX 0 rfl dX3_status_39 ?_
        refine G.get hX inc_X3_status_3 0 rfl rfl 7 (by decide) (by decide +kernel) rfl dX3_status_40 ?_
        refine G.iload_n hX 2 rfl dX3_status_43 ?_
        refine G.iald hX (j := k) 1 rfl (by omega) (by omega) dX3_status_44 ?_
        refine G.iadd hX dX3_status_45 ?_
        refine G.istore_n hX (lv' := [(2, .int ((it (cStA fo) k 0) + (fo k))), (0, .ref (ox 0)), (3, .int (nI k))]) rfl (by decide) rfl dX3_status_46 ?_
        refine G.iinc hX (n := 1) (lv' := [(3, .int (nI (k + 1))), (2, .int ((it (cStA fo) k 0) + (fo k))), (0, .ref (ox 0))]) 2 rfl (inc_nI k 1 rfl) (by decide) rfl dX3_status_47 ?_
        refine G.goto hX (tgt := 32) (by decide) dX3_status_50 ?_
        refine G.lvp (lv' := [(0, .ref (ox 0)), (2, .int ((it (cStA fo) k 0) + (fo k))), (3, .int (nI (k + 1)))]) [2, 1, 0] rfl ?_
        refine G.lve (lv' := [(0, .ref (ox 0)), (2, .int (it (cStA fo) (k + 1) 0)), (3, .int (nI ((k + 1))))]) (by rfl) ?_
        exact ih32 (k + 1) (by omega) (by omega)
  refine G.lvp (lv' := [(0, .ref (ox 0)), (2, .int 0), (3, .int 0)]) [2, 1, 0] rfl ?_
  refine G.lve (lv' := [(0, .ref (ox 0)), (2, .int (it (cStA fo) 0 0)), (3, .int (nI 0))]) (by rfl) ?_
  exact L32 8 0 (by omega) (by omega)
set_option maxHeartbeats 4000000 in
set_option maxRecDepth 100000 in
theorem c_X3_statusone (l : Launch) (E : EV) (w : Nat) (ox : Nat → Nat) (rr : Nat → Nat) (rk : Nat → Nat) (rt : Nat → Nat) (rb : Nat → Nat) (xt : Nat → Nat) (kp : Int32) (fo : Nat → Int32) (h1 : w < 7) : CI l yX3_status wsX3_status rmX3_status E [.ref (ox 0), .int (nI w)] [(ox 0, noO ox rr rk rt rb xt kp), (ox 3, arI E 7 fo)] [(ox 0, noO ox rr rk rt rb xt kp), (ox 3, arI E 7 fo)] (fo w) := by
  refine CI.of (own := RX3) (cc := cX3_status) (nL := 4) (rt := (some .int)) (by decide) rfl rfl (Nat.le_of_ble_eq_true rfl) (fun X hX hQ => ?_)
  show G E X 4 0 [(0, .ref (ox 0)), (1, .int (nI w))] [] [(ox 0, noO ox rr rk rt rb xt kp), (ox 3, arI E 7 fo)]
  refine G.iload_n hX 1 rfl dX3_status_0 ?_
  refine G.iconst hX (v := -1) (by decide) dX3_status_1 ?_
  refine G.icmp_lt hX (tgt := 11) (by decide) dX3_status_2 (fun c2 => ?_) (fun c2 => ?_)
  · first | exact absurd c2 (m1_all w h1) | exact absurd h1 (by omega)
  · refine G.iload_n hX 1 rfl dX3_status_5 ?_
    refine G.bipush hX (v := 7) (by decide) dX3_status_6 ?_
    refine G.n_lt hX (a := w) (b := 7) (tgt := 17) (by omega) (by omega) (by decide) dX3_status_8 (fun c8 => ?_) (fun c8 => ?_)
    · refine G.iload_n hX 1 rfl dX3_status_17 ?_
      refine G.if_lt hX (tgt := 28) (by decide) dX3_status_18 (fun c18 => absurd c18 (nI_pos (by omega))) (fun _ => ?_)
      refine G.aload_n hX 0 rfl dX3_status_21 ?_
      refine G.get hX inc_X3_status_3 0 rfl rfl 7 (by decide) (by decide +kernel) rfl dX3_status_22 ?_
      refine G.iload_n hX 1 rfl dX3_status_25 ?_
      refine G.iald hX (j := w) 1 rfl (by omega) (by omega) dX3_status_26 ?_
      exact G.iret hX hQ dX3_status_27 (by rfl) (by rfl)
    · first | exact absurd c8 (m1_all w h1) | exact absurd h1 (by omega)
abbrev rmX2_add : Room := { frames := 0, cells := 0, slots := 0, locals := 0 }
theorem cp_X2_add : CP yX2_add RX2 wsX2_add 2 1 rmX2_add := ⟨⟨_, _, _, rfl⟩, rfl, rfl, by decide +kernel⟩
theorem inc_X2_add_2 : ∀ w ∈ u_ws RX2 TX2 6, w ∈ wsX2_add := by decide +kernel
set_option maxHeartbeats 4000000 in
set_option maxRecDepth 100000 in
theorem c_X2_add (l : Launch) (E : EV) (c : Nat) (x : Int32) (xt : Nat → Nat) (sa : Int32) (en : Int32) (tp : Int32) (vl : Int32) (by8 : Nat → Int32) (h1 : c < 120) : CV l yX2_add wsX2_add rmX2_add E [.ref (xt 0), .int x] [(xt 0, txO xt (nI c) sa en tp vl), (xt 1, arB E 120 by8)] [(xt 0, txO xt (nI (c + 1)) sa en tp vl), (xt 1, arB E 120 (upd by8 c (vp_nar .byte x)))] := by
  refine CV.of (own := RX2) (cc := cX2_add) (nL := 2) (rt := none) (by decide) rfl rfl (Nat.le_of_ble_eq_true rfl) (fun X hX hQ => ?_)
  show G E X 2 0 [(0, .ref (xt 0)), (1, .int x)] [] [(xt 0, txO xt (nI c) sa en tp vl), (xt 1, arB E 120 by8)]
  refine G.aload_n hX 0 rfl dX2_add_0 ?_
  refine G.get hX inc_X2_add_2 0 rfl rfl 0 (by decide) (by decide +kernel) rfl dX2_add_1 ?_
  refine G.bipush hX (v := 120) (by decide) dX2_add_4 ?_
  refine G.n_ge hX (a := c) (b := 120) (tgt := 29) (by omega) (by omega) (by decide) dX2_add_6 (fun c6 => ?_) (fun c6 => ?_)
  · exact G.vret hX hQ dX2_add_29 (by first | rfl | exact absurd c6 (by omega))
  · refine G.aload_n hX 0 rfl dX2_add_9 ?_
    refine G.get hX inc_X2_add_2 0 rfl rfl 1 (by decide) (by decide +kernel) rfl dX2_add_10 ?_
    refine G.aload_n hX 0 rfl dX2_add_13 ?_
    refine G.get hX inc_X2_add_2 0 rfl rfl 0 (by decide) (by decide +kernel) rfl dX2_add_14 ?_
    refine G.iload_n hX 1 rfl dX2_add_17 ?_
    refine G.bast hX (j := c) (ws' := [(xt 0, txO xt (nI c) sa en tp vl), (xt 1, arB E 120 (upd by8 c (vp_nar .byte x)))]) 1 rfl (by omega) (by omega) rfl rfl dX2_add_18 ?_
    refine G.aload_n hX 0 rfl dX2_add_19 ?_
    refine G.dup hX rfl dX2_add_20 ?_
    refine G.get hX inc_X2_add_2 0 rfl rfl 0 (by decide) (by decide +kernel) rfl dX2_add_21 ?_
    refine G.iconst hX (v := 1) (by decide) dX2_add_24 ?_
    refine G.iadd hX dX2_add_25 ?_
    refine G.ie (nI_add c 1) ?_
    refine G.put hX (ws' := [(xt 0, txO xt (nI (c + 1)) sa en tp vl), (xt 1, arB E 120 (upd by8 c (vp_nar .byte x)))]) inc_X2_add_2 tyX2 tyX2_ok nmX2 0 rfl rfl 0 (by decide) (by decide +kernel) rfl (tyX2_ok 0 (by decide)) rfl rfl (Nat.le_of_ble_eq_true rfl) rfl rfl dX2_add_26 ?_
    exact G.vret hX hQ dX2_add_29 (by rfl)
abbrev rmX3_feed : Room := { frames := 1, cells := 0, slots := 0, locals := 21 }
theorem cp_X3_feed : CP yX3_feed RX3 wsX3_feed 4 2 rmX3_feed := ⟨⟨_, _, _, rfl⟩, rfl, rfl, by decide +kernel⟩
theorem inc_X3_feed_3 : ∀ w ∈ u_ws RX3 TX3 9, w ∈ wsX3_feed := by decide +kernel
theorem inc_X3_feed_2 : ∀ w ∈ u_ws RX2 TX2 6, w ∈ wsX3_feed := by decide +kernel
set_option maxHeartbeats 4000000 in
set_option maxRecDepth 100000 in
theorem c_X3_feedbad (l : Launch) (E : EV) (b : Int32) (y : Int32) (ox : Nat → Nat) (rr : Nat → Nat) (rk : Nat → Nat) (rt : Nat → Nat) (rb : Nat → Nat) (xt : Nat → Nat) (kp : Int32) (fo : Nat → Int32) (h1 : (!(decide (y < 1)) && decide (y ≤ 4)) = false) : CI l yX3_feed wsX3_feed rmX3_feed E [.ref (ox 0), .int b, .int y] [(ox 0, noO ox rr rk rt rb xt kp), (ox 3, arI E 7 fo)] [(ox 0, noO ox rr rk rt rb xt kp), (ox 3, arI E 7 (upd fo 0 (fo 0 + 1)))] ((-1000000001)) := by
  refine CI.of (own := RX3) (cc := cX3_feed) (nL := 4) (rt := (some .int)) (by decide) rfl rfl (Nat.le_of_ble_eq_true rfl) (fun X hX hQ => ?_)
  show G E X 4 0 [(0, .ref (ox 0)), (1, .int b), (2, .int y)] [] [(ox 0, noO ox rr rk rt rb xt kp), (ox 3, arI E 7 fo)]
  refine G.iload_n hX 2 rfl dX3_feed_0 ?_
  refine G.iconst hX (v := 1) (by decide) dX3_feed_1 ?_
  refine G.icmp_lt hX (tgt := 10) (by decide) dX3_feed_2 (fun c2 => ?_) (fun c2 => ?_)
  · refine G.aload_n hX 0 rfl dX3_feed_10 ?_
    refine G.iconst hX (v := 0) (by decide) dX3_feed_11 ?_
    refine G.vi hX (As := [.int 0]) (st := []) (wr := []) (wf := [(ox 0, noO ox rr rk rt rb xt kp), (ox 3, arI E 7 (upd fo 0 (fo 0 + 1)))]) (q0 := 0) (ci := 3) rfl rfl (c_X3_finding0 _ E (ox := ox) (rr := rr) (rk := rk) (rt := rt) (rb := rb) (xt := xt) (kp := kp) (fo := fo) ) gX3_feed_X3_finding cp_X3_finding (by decide) [0, 1] [] [0, 1] ⟨rfl, rfl, by decide, rfl⟩ rfl rfl (Nat.le_of_ble_eq_true rfl) dX3_feed_12 ?_
    exact G.iret hX hQ dX3_feed_15 (by rfl) (by rfl)
  · refine G.iload_n hX 2 rfl dX3_feed_5 ?_
    refine G.iconst hX (v := 4) (by decide) dX3_feed_6 ?_
    refine G.icmp_le hX (tgt := 16) (by decide) dX3_feed_7 (fun c7 => ?_) (fun c7 => ?_)
    · exact absurd h1 (by simp [c2, c7])
    · refine G.aload_n hX 0 rfl dX3_feed_10 ?_
      refine G.iconst hX (v := 0) (by decide) dX3_feed_11 ?_
      refine G.vi hX (As := [.int 0]) (st := []) (wr := []) (wf := [(ox 0, noO ox rr rk rt rb xt kp), (ox 3, arI E 7 (upd fo 0 (fo 0 + 1)))]) (q0 := 0) (ci := 3) rfl rfl (c_X3_finding0 _ E (ox := ox) (rr := rr) (rk := rk) (rt := rt) (rb := rb) (xt := xt) (kp := kp) (fo := fo) ) gX3_feed_X3_finding cp_X3_finding (by decide) [0, 1] [] [0, 1] ⟨rfl, rfl, by decide, rfl⟩ rfl rfl (Nat.le_of_ble_eq_true rfl) dX3_feed_12 ?_
      exact G.iret hX hQ dX3_feed_15 (by rfl) (by rfl)
set_option maxHeartbeats 4000000 in
set_option maxRecDepth 100000 in
theorem c_X3_feedfull (l : Launch) (E : EV) (b : Int32) (n0 : Nat) (c : Nat) (ox : Nat → Nat) (rr : Nat → Nat) (rk : Nat → Nat) (rt : Nat → Nat) (rb : Nat → Nat) (xt : Nat → Nat) (kp : Int32) (sa : Int32) (en : Int32) (tp : Int32) (vl : Int32) (fo : Nat → Int32) (h1 : 1 ≤ n0) (h2 : n0 ≤ 4) (h3 : c ≤ 120) (h4 : 120 < c + n0) : CI l yX3_feed wsX3_feed rmX3_feed E [.ref (ox 0), .int b, .int (nI n0)] [(ox 0, noO ox rr rk rt rb xt kp), (ox 3, arI E 7 fo), (xt 0, txO xt (nI c) sa en tp vl)] [(ox 0, noO ox rr rk rt rb xt kp), (ox 3, arI E 7 (upd fo 1 (fo 1 + 1))), (xt 0, txO xt (nI c) sa en tp vl)] ((-1000000002)) := by
  refine CI.of (own := RX3) (cc := cX3_feed) (nL := 4) (rt := (some .int)) (by decide) rfl rfl (Nat.le_of_ble_eq_true rfl) (fun X hX hQ => ?_)
  show G E X 4 0 [(0, .ref (ox 0)), (1, .int b), (2, .int (nI n0))] [] [(ox 0, noO ox rr rk rt rb xt kp), (ox 3, arI E 7 fo), (xt 0, txO xt (nI c) sa en tp vl)]
  refine G.iload_n hX 2 rfl dX3_feed_0 ?_
  refine G.iconst hX (v := 1) (by decide) dX3_feed_1 ?_
  refine G.n_lt hX (a := n0) (b := 1) (tgt := 10) (by omega) (by omega) (by decide) dX3_feed_2 (fun c2 => ?_) (fun c2 => ?_)
  · exact absurd h1 (by omega)
  · refine G.iload_n hX 2 rfl dX3_feed_5 ?_
    refine G.iconst hX (v := 4) (by decide) dX3_feed_6 ?_
    refine G.n_le hX (a := n0) (b := 4) (tgt := 16) (by omega) (by omega) (by decide) dX3_feed_7 (fun c7 => ?_) (fun c7 => ?_)
    · refine G.aload_n hX 0 rfl dX3_feed_16 ?_
      refine G.get hX inc_X3_feed_3 0 rfl rfl 5 (by decide) (by decide +kernel) rfl dX3_feed_17 ?_
      refine G.get hX inc_X3_feed_2 2 rfl rfl 0 (by decide) (by decide +kernel) rfl dX3_feed_20 ?_
      refine G.bipush hX (v := 120) (by decide) dX3_feed_23 ?_
      refine G.iload_n hX 2 rfl dX3_feed_25 ?_
      refine G.isub hX dX3_feed_26 ?_
      refine G.ie (pk_sub (a := 120) (b := n0) (by omega)) ?_
      refine G.n_le hX (a := c) (b := 120 - n0) (tgt := 36) (by omega) (by omega) (by decide) dX3_feed_27 (fun c27 => ?_) (fun c27 => ?_)
      · exact absurd h4 (by omega)
      · refine G.aload_n hX 0 rfl dX3_feed_30 ?_
        refine G.iconst hX (v := 1) (by decide) dX3_feed_31 ?_
        refine G.vi hX (As := [.int 1]) (st := []) (wr := [(xt 0, txO xt (nI c) sa en tp vl)]) (wf := [(ox 0, noO ox rr rk rt rb xt kp), (ox 3, arI E 7 (upd fo 1 (fo 1 + 1))), (xt 0, txO xt (nI c) sa en tp vl)]) (q0 := 0) (ci := 3) rfl rfl (c_X3_finding1 _ E (ox := ox) (rr := rr) (rk := rk) (rt := rt) (rb := rb) (xt := xt) (kp := kp) (fo := fo) ) gX3_feed_X3_finding cp_X3_finding (by decide) [0, 1] [2] [1, 2, 0] ⟨rfl, rfl, by decide, rfl⟩ rfl rfl (Nat.le_of_ble_eq_true rfl) dX3_feed_32 ?_
        exact G.iret hX hQ dX3_feed_35 (by rfl) (by rfl)
    · exact absurd h1 (by omega)
set_option maxHeartbeats 4000000 in
set_option maxRecDepth 100000 in
theorem c_X3_feedok (l : Launch) (E : EV) (b : Int32) (n0 : Nat) (c : Nat) (ox : Nat → Nat) (rr : Nat → Nat) (rk : Nat → Nat) (rt : Nat → Nat) (rb : Nat → Nat) (xt : Nat → Nat) (kp : Int32) (sa : Int32) (en : Int32) (tp : Int32) (vl : Int32) (by8 : Nat → Int32) (h1 : 1 ≤ n0) (h2 : n0 ≤ 4) (h3 : c + n0 ≤ 120) : CI l yX3_feed wsX3_feed rmX3_feed E [.ref (ox 0), .int b, .int (nI n0)] [(ox 0, noO ox rr rk rt rb xt kp), (xt 0, txO xt (nI c) sa en tp vl), (xt 1, arB E 120 by8)] [(ox 0, noO ox rr rk rt rb xt kp), (xt 0, txO xt (nI (c + n0)) sa en tp vl), (xt 1, arB E 120 (it (cFeS b n0 c) n0 by8))] (nI (c + n0)) := by
  refine CI.of (own := RX3) (cc := cX3_feed) (nL := 4) (rt := (some .int)) (by decide) rfl rfl (Nat.le_of_ble_eq_true rfl) (fun X hX hQ => ?_)
  show G E X 4 0 [(0, .ref (ox 0)), (1, .int b), (2, .int (nI n0))] [] [(ox 0, noO ox rr rk rt rb xt kp), (xt 0, txO xt (nI c) sa en tp vl), (xt 1, arB E 120 by8)]
  refine G.iload_n hX 2 rfl dX3_feed_0 ?_
  refine G.iconst hX (v := 1) (by decide) dX3_feed_1 ?_
  refine G.n_lt hX (a := n0) (b := 1) (tgt := 10) (by omega) (by omega) (by decide) dX3_feed_2 (fun c2 => ?_) (fun c2 => ?_)
  · exact absurd h1 (by omega)
  · refine G.iload_n hX 2 rfl dX3_feed_5 ?_
    refine G.iconst hX (v := 4) (by decide) dX3_feed_6 ?_
    refine G.n_le hX (a := n0) (b := 4) (tgt := 16) (by omega) (by omega) (by decide) dX3_feed_7 (fun c7 => ?_) (fun c7 => ?_)
    · refine G.aload_n hX 0 rfl dX3_feed_16 ?_
      refine G.get hX inc_X3_feed_3 0 rfl rfl 5 (by decide) (by decide +kernel) rfl dX3_feed_17 ?_
      refine G.get hX inc_X3_feed_2 1 rfl rfl 0 (by decide) (by decide +kernel) rfl dX3_feed_20 ?_
      refine G.bipush hX (v := 120) (by decide) dX3_feed_23 ?_
      refine G.iload_n hX 2 rfl dX3_feed_25 ?_
      refine G.isub hX dX3_feed_26 ?_
      refine G.ie (pk_sub (a := 120) (b := n0) (by omega)) ?_
      refine G.n_le hX (a := c) (b := 120 - n0) (tgt := 36) (by omega) (by omega) (by decide) dX3_feed_27 (fun c27 => ?_) (fun c27 => ?_)
      · refine G.iload_n hX 2 rfl dX3_feed_36 ?_
        refine G.iconst hX (v := 1) (by decide) dX3_feed_37 ?_
        refine G.isub hX dX3_feed_38 ?_
        refine G.istore_n hX (lv' := [(3, .int ((nI n0) - 1)), (0, .ref (ox 0)), (1, .int b), (2, .int (nI n0))]) rfl (by decide) rfl dX3_feed_39 ?_
        have L40 : ∀ (n : Nat) (i : Nat), i ≤ n0 → n0 + 1 ≤ i + n → G E X 4 40 [(0, .ref (ox 0)), (1, .int b), (2, .int (nI n0)), (3, .int (nI (n0 - i) - 1))] [] [(ox 0, noO ox rr rk rt rb xt kp), (xt 0, txO xt (nI (c + i)) sa en tp vl), (xt 1, arB E 120 (it (cFeS b n0 c) i by8))] := by
          intro n
          induction n with
          | zero => intro i hl40_0 hl40_1; exact absurd hl40_1 (by omega)
          | succ n ih40 =>
            intro i hl40_0 hl40_1
            refine G.iload_n hX 3 rfl dX3_feed_40 ?_
            refine G.if_lt hX (tgt := 64) (by decide) dX3_feed_41 (fun c41 => ?_) (fun c41 => ?_)
            · obtain rfl : n0 = i := by rcases Nat.lt_or_ge i n0 with q | q; exact absurd c41 (by rw [prd (by omega)]; exact nI_pos (by omega)); omega
              refine G.aload_n hX 0 rfl dX3_feed_64 ?_
              refine G.get hX inc_X3_feed_3 0 rfl rfl 5 (by decide) (by decide +kernel) rfl dX3_feed_65 ?_
              refine G.get hX inc_X3_feed_2 1 rfl rfl 0 (by decide) (by decide +kernel) rfl dX3_feed_68 ?_
              exact G.iret hX hQ dX3_feed_71 (by rfl) (by rfl)
            · have hin : i < n0 := by rcases Nat.lt_or_ge i n0 with q | q; exact q; exact absurd (by have e : n0 - i = 0 := (by omega); rw [e]; decide) c41
              refine G.aload_n hX 0 rfl dX3_feed_44 ?_
              refine G.get hX inc_X3_feed_3 0 rfl rfl 5 (by decide) (by decide +kernel) rfl dX3_feed_45 ?_
              refine G.iload_n hX 1 rfl dX3_feed_48 ?_
              refine G.bipush hX (v := 8) (by decide) dX3_feed_49 ?_
              refine G.iload_n hX 3 rfl dX3_feed_51 ?_
              refine G.ie (y := nI (n0 - i - 1)) (by exact prd (by omega)) ?_
              refine G.imul hX dX3_feed_52 ?_
              refine G.ie (pk_mul 8 (n0 - i - 1)) ?_
              refine G.ishr hX dX3_feed_53 ?_
              refine G.i2b hX dX3_feed_54 ?_
              refine G.vv hX (As := [.int ((b >>> ((nI (8 * (n0 - i - 1))) &&& 31)).toInt8.toInt32)]) (st := []) (wr := [(ox 0, noO ox rr rk rt rb xt kp)]) (wf := [(ox 0, noO ox rr rk rt rb xt kp), (xt 0, txO xt (nI ((c + i) + 1)) sa en tp vl), (xt 1, arB E 120 (upd (it (cFeS b n0 c) i by8) (c + i) (vp_nar .byte ((b >>> ((nI (8 * (n0 - i - 1))) &&& 31)).toInt8.toInt32))))]) (q0 := 0) (ci := 2) rfl rfl (c_X2_add _ E (c := c + i) (x := (b >>> ((nI (8 * (n0 - i - 1))) &&& 31)).toInt8.toInt32) (xt := xt) (sa := sa) (en := en) (tp := tp) (vl := vl) (by8 := it (cFeS b n0 c) i by8) (h1 := by omega)) gX3_feed_X2_add cp_X2_add (by decide) [1, 2] [0] [0, 1, 2] ⟨rfl, rfl, by decide, rfl⟩ rfl rfl (Nat.le_of_ble_eq_true rfl) dX3_feed_55 ?_
              refine G.iinc hX (n := -1) (lv' := [(3, .int (nI (n0 - (i + 1)) - 1)), (0, .ref (ox 0)), (1, .int b), (2, .int (nI n0))]) 3 rfl (dec1 hin) (by decide) rfl dX3_feed_58 ?_
              refine G.goto hX (tgt := 40) (by decide) dX3_feed_61 ?_
              refine G.lvp (lv' := [(0, .ref (ox 0)), (1, .int b), (2, .int (nI n0)), (3, .int (nI (n0 - (i + 1)) - 1))]) [1, 2, 3, 0] rfl ?_
              refine G.we (ws' := [(ox 0, noO ox rr rk rt rb xt kp), (xt 0, txO xt (nI (c + (i + 1))) sa en tp vl), (xt 1, arB E 120 (it (cFeS b n0 c) (i + 1) by8))]) (by rfl) ?_
              exact ih40 (i + 1) (by omega) (by omega)
        refine G.lvp (lv' := [(0, .ref (ox 0)), (1, .int b), (2, .int (nI n0)), (3, .int ((nI n0) - 1))]) [1, 2, 3, 0] rfl ?_
        refine G.lve (lv' := [(0, .ref (ox 0)), (1, .int b), (2, .int (nI n0)), (3, .int (nI (n0 - 0) - 1))]) (by rfl) ?_
        refine G.we (ws' := [(ox 0, noO ox rr rk rt rb xt kp), (xt 0, txO xt (nI c) sa en tp vl), (xt 1, arB E 120 (it (cFeS b n0 c) 0 by8))]) (by rfl) ?_
        exact L40 (n0 + 1) 0 (by omega) (by omega)
      · exact absurd h3 (by omega)
    · exact absurd h1 (by omega)
abbrev rmX3_wipe : Room := { frames := 0, cells := 0, slots := 0, locals := 0 }
theorem cp_X3_wipe : CP yX3_wipe RX3 wsX3_wipe 2 0 rmX3_wipe := ⟨⟨_, _, _, rfl⟩, rfl, rfl, by decide +kernel⟩
theorem inc_X3_wipe_3 : ∀ w ∈ u_ws RX3 TX3 9, w ∈ wsX3_wipe := by decide +kernel
theorem inc_X3_wipe_2 : ∀ w ∈ u_ws RX2 TX2 6, w ∈ wsX3_wipe := by decide +kernel
set_option maxHeartbeats 4000000 in
set_option maxRecDepth 100000 in
theorem c_X3_wipe (l : Launch) (E : EV) (ox : Nat → Nat) (rr : Nat → Nat) (rk : Nat → Nat) (rt : Nat → Nat) (rb : Nat → Nat) (xt : Nat → Nat) (kp : Int32) (ln : Int32) (sa : Int32) (en : Int32) (tp : Int32) (vl : Int32)  : CI l yX3_wipe wsX3_wipe rmX3_wipe E [.ref (ox 0)] [(ox 0, noO ox rr rk rt rb xt kp), (xt 0, txO xt ln sa en tp vl)] [(ox 0, noO ox rr rk rt rb xt kp), (xt 0, txO xt 0 sa en tp vl)] ln := by
  refine CI.of (own := RX3) (cc := cX3_wipe) (nL := 2) (rt := (some .int)) (by decide) rfl rfl (Nat.le_of_ble_eq_true rfl) (fun X hX hQ => ?_)
  show G E X 2 0 [(0, .ref (ox 0))] [] [(ox 0, noO ox rr rk rt rb xt kp), (xt 0, txO xt ln sa en tp vl)]
  refine G.aload_n hX 0 rfl dX3_wipe_0 ?_
  refine G.get hX inc_X3_wipe_3 0 rfl rfl 5 (by decide) (by decide +kernel) rfl dX3_wipe_1 ?_
  refine G.get hX inc_X3_wipe_2 1 rfl rfl 0 (by decide) (by decide +kernel) rfl dX3_wipe_4 ?_
  refine G.istore_n hX (lv' := [(1, .int ln), (0, .ref (ox 0))]) rfl (by decide) rfl dX3_wipe_7 ?_
  refine G.aload_n hX 1 rfl dX3_wipe_8 ?_
  refine G.get hX inc_X3_wipe_3 0 rfl rfl 5 (by decide) (by decide +kernel) rfl dX3_wipe_9 ?_
  refine G.iconst hX (v := 0) (by decide) dX3_wipe_12 ?_
  refine G.put hX (ws' := [(ox 0, noO ox rr rk rt rb xt kp), (xt 0, txO xt 0 sa en tp vl)]) inc_X3_wipe_2 tyX2 tyX2_ok nmX2 1 rfl rfl 0 (by decide) (by decide +kernel) rfl (tyX2_ok 0 (by decide)) rfl rfl (Nat.le_of_ble_eq_true rfl) rfl rfl dX3_wipe_13 ?_
  refine G.iload_n hX 0 rfl dX3_wipe_16 ?_
  exact G.iret hX hQ dX3_wipe_17 (by rfl) (by rfl)
