abbrev rmX2_layOut : Room := { frames := 7, cells := 0, slots := 0, locals := 154 }
theorem cp_X2_layOut : CP yX2_layOut RX2 wsX2_layOut 3 1 rmX2_layOut := ⟨⟨_, _, _, rfl⟩, rfl, rfl, by decide +kernel⟩
theorem inc_X2_layOut_2 : ∀ w ∈ u_ws RX2 TX2 6, w ∈ wsX2_layOut := by decide +kernel
set_option maxHeartbeats 4000000 in
set_option maxRecDepth 100000 in
theorem c_X2_layOut (l : Launch) (E : EV) (q : XQ) (c : Nat) (v : AV) (rr : XR) (xt : Nat → Nat) (a : Nat → Nat) (by8 : Nat → Int32) (h1 : c ≤ 120) (h2 : x_lo by8 c v q = rr) : CI l yX2_layOut wsX2_layOut rmX2_layOut E [.ref (xt 0), .ref (a 0)] [(xt 0, txO xt (nI c) (nI q.1) (nI q.2.1) (nI q.2.2.1) q.2.2.2), (xt 1, arB E 120 by8), (a 0, avO a v.1 v.2.1), (a 1, arI E 12 v.2.2.1), (a 2, arI E 12 v.2.2.2.1), (a 3, arI E 12 v.2.2.2.2.1), (a 4, arI E 96 v.2.2.2.2.2)] [(xt 0, txO xt (nI c) (nI rr.2.1.1) (nI rr.2.1.2.1) (nI rr.2.1.2.2.1) rr.2.1.2.2.2), (xt 1, arB E 120 by8), (a 0, avO a rr.2.2.1 rr.2.2.2.1), (a 1, arI E 12 rr.2.2.2.2.1), (a 2, arI E 12 rr.2.2.2.2.2.1), (a 3, arI E 12 rr.2.2.2.2.2.2.1), (a 4, arI E 96 rr.2.2.2.2.2.2.2)] rr.1 := by
  refine CI.of (own := RX2) (cc := cX2_layOut) (nL := 3) (rt := (some .int)) (by decide) rfl rfl (Nat.le_of_ble_eq_true rfl) (fun X hX hQ => ?_)
  show G E X 3 0 [(0, .ref (xt 0)), (1, .ref (a 0))] [] [(xt 0, txO xt (nI c) (nI q.1) (nI q.2.1) (nI q.2.2.1) q.2.2.2), (xt 1, arB E 120 by8), (a 0, avO a v.1 v.2.1), (a 1, arI E 12 v.2.2.1), (a 2, arI E 12 v.2.2.2.1), (a 3, arI E 12 v.2.2.2.2.1), (a 4, arI E 96 v.2.2.2.2.2)]
  refine G.aload_n hX 0 rfl dX2_layOut_0 ?_
  refine G.iconst hX (v := 0) (by decide) dX2_layOut_1 ?_
  refine G.put hX (ws' := [(xt 0, txO xt (nI c) (nI q.1) 0 (nI q.2.2.1) q.2.2.2), (xt 1, arB E 120 by8), (a 0, avO a v.1 v.2.1), (a 1, arI E 12 v.2.2.1), (a 2, arI E 12 v.2.2.2.1), (a 3, arI E 12 v.2.2.2.2.1), (a 4, arI E 96 v.2.2.2.2.2)]) inc_X2_layOut_2 tyX2 tyX2_ok nmX2 0 rfl rfl 3 (by decide) (by decide +kernel) rfl (tyX2_ok 3 (by decide)) rfl rfl (Nat.le_of_ble_eq_true rfl) rfl rfl dX2_layOut_2 ?_
  refine G.we (ws' := [(xt 0, txO xt (nI c) (nI (((q.1, 0, q.2.2.1, q.2.2.2)).1)) (nI (((q.1, 0, q.2.2.1, q.2.2.2)).2.1)) (nI (((q.1, 0, q.2.2.1, q.2.2.2)).2.2.1)) (((q.1, 0, q.2.2.1, q.2.2.2)).2.2.2)), (xt 1, arB E 120 by8), (a 0, avO a v.1 v.2.1), (a 1, arI E 12 v.2.2.1), (a 2, arI E 12 v.2.2.2.1), (a 3, arI E 12 v.2.2.2.2.1), (a 4, arI E 96 v.2.2.2.2.2)]) (by rfl) ?_
  refine G.aload_n hX 0 rfl dX2_layOut_5 ?_
  refine G.vv hX (As := []) (st := []) (wr := [(a 0, avO a v.1 v.2.1), (a 1, arI E 12 v.2.2.1), (a 2, arI E 12 v.2.2.2.1), (a 3, arI E 12 v.2.2.2.2.1), (a 4, arI E 96 v.2.2.2.2.2)]) (wf := [(xt 0, txO xt (nI c) (nI ((x_adv by8 c ((q.1, 0, q.2.2.1, q.2.2.2))).1)) (nI ((x_adv by8 c ((q.1, 0, q.2.2.1, q.2.2.2))).2.1)) (nI ((x_adv by8 c ((q.1, 0, q.2.2.1, q.2.2.2))).2.2.1)) ((x_adv by8 c ((q.1, 0, q.2.2.1, q.2.2.2))).2.2.2)), (xt 1, arB E 120 by8), (a 0, avO a v.1 v.2.1), (a 1, arI E 12 v.2.2.1), (a 2, arI E 12 v.2.2.2.1), (a 3, arI E 12 v.2.2.2.2.1), (a 4, arI E 96 v.2.2.2.2.2)]) (q0 := 0) (ci := 2) rfl rfl (c_X2_advance _ E (q := (q.1, 0, q.2.2.1, q.2.2.2)) (c := c) (xt := xt) (by8 := by8) (h1 := Nat.zero_le _) (h2 := by omega)) gX2_layOut_X2_advance cp_X2_advance (by decide) [0, 1] [2, 3, 4, 5, 6] [5, 6, 0, 1, 2, 3, 4] ⟨rfl, rfl, by decide, rfl⟩ rfl rfl (Nat.le_of_ble_eq_true rfl) dX2_layOut_6 ?_
  refine G.we (ws' := [(xt 0, txO xt (nI c) (nI ((x_q0 by8 c q).1)) (nI ((x_q0 by8 c q).2.1)) (nI ((x_q0 by8 c q).2.2.1)) ((x_q0 by8 c q).2.2.2)), (xt 1, arB E 120 by8), (a 0, avO a v.1 v.2.1), (a 1, arI E 12 v.2.2.1), (a 2, arI E 12 v.2.2.2.1), (a 3, arI E 12 v.2.2.2.2.1), (a 4, arI E 96 v.2.2.2.2.2)]) (by rfl) ?_
  refine G.iconst hX (v := 1) (by decide) dX2_layOut_9 ?_
  refine G.istore_n hX (lv' := [(2, .int 1), (0, .ref (xt 0)), (1, .ref (a 0))]) rfl (by decide) rfl dX2_layOut_10 ?_
  have L11 : ∀ (n : Nat) (kk : Nat) (v1 : AV) (q1 : XQ) (nn : Nat), XOK c q1 → kk + nn = 121 → rr = x_lL by8 c kk v1 q1 nn → kk + 1 ≤ n → G E X 3 11 [(0, .ref (xt 0)), (1, .ref (a 0)), (2, .int (nI nn))] [] [(xt 0, txO xt (nI c) (nI q1.1) (nI q1.2.1) (nI q1.2.2.1) q1.2.2.2), (xt 1, arB E 120 by8), (a 0, avO a v1.1 v1.2.1), (a 1, arI E 12 v1.2.2.1), (a 2, arI E 12 v1.2.2.2.1), (a 3, arI E 12 v1.2.2.2.2.1), (a 4, arI E 96 v1.2.2.2.2.2)] := by
    intro n
    induction n with
    | zero => intro kk v1 q1 nn hl11_0 hl11_1 hl11_2 hl11_3; exact absurd hl11_3 (by omega)
    | succ n ih11 =>
      intro kk v1 q1 nn hl11_0 hl11_1 hl11_2 hl11_3
      refine G.iload_n hX 2 rfl dX2_layOut_11 ?_
      refine G.bipush hX (v := 120) (by decide) dX2_layOut_12 ?_
      refine G.n_gt hX (a := nn) (b := 120) (tgt := 58) (by omega) (by omega) (by decide) dX2_layOut_14 (fun c14 => ?_) (fun c14 => ?_)
      · refine G.iconst hX (v := -1) (by decide) dX2_layOut_58 ?_
        refine G.aload_n hX 0 rfl dX2_layOut_59 ?_
        refine G.get hX inc_X2_layOut_2 0 rfl rfl 2 (by decide) (by decide +kernel) rfl dX2_layOut_60 ?_
        refine G.isub hX dX2_layOut_63 ?_
        exact G.iret hX hQ dX2_layOut_64 (by first | (rw [hl11_2]; simp only [x_lL, x_no, c14, ↓reduceIte, Bool.false_eq_true]; done) | (obtain rfl : kk = 0 := (by omega); rw [hl11_2, x_lL]; done)) (by first | (rw [hl11_2]; simp only [x_lL, x_no, c14, ↓reduceIte, Bool.false_eq_true]; done) | (obtain rfl : kk = 0 := (by omega); rw [hl11_2, x_lL]; done))
      · refine G.aload_n hX 0 rfl dX2_layOut_17 ?_
        refine G.aload_n hX 1 rfl dX2_layOut_18 ?_
        refine G.vi hX (As := [.ref (a 0)]) (st := []) (wr := []) (wf := [(xt 0, txO xt (nI c) (nI (((x_it by8 c v1 q1).2.1).1)) (nI (((x_it by8 c v1 q1).2.1).2.1)) (nI (((x_it by8 c v1 q1).2.1).2.2.1)) (((x_it by8 c v1 q1).2.1).2.2.2)), (xt 1, arB E 120 by8), (a 0, avO a (((x_it by8 c v1 q1).2.2).1) (((x_it by8 c v1 q1).2.2).2.1)), (a 1, arI E 12 (((x_it by8 c v1 q1).2.2).2.2.1)), (a 2, arI E 12 (((x_it by8 c v1 q1).2.2).2.2.2.1)), (a 3, arI E 12 (((x_it by8 c v1 q1).2.2).2.2.2.2.1)), (a 4, arI E 96 (((x_it by8 c v1 q1).2.2).2.2.2.2.2))]) (q0 := 0) (ci := 2) rfl rfl (c_X2_takeItem _ E (q := q1) (c := c) (v := v1) (xt := xt) (a := a) (by8 := by8) (h1 := hl11_0) (h2 := by omega)) gX2_layOut_X2_takeItem cp_X2_takeItem (by decide) [0, 1, 2, 3, 4, 5, 6] [] [0, 1, 2, 3, 4, 5, 6] ⟨rfl, rfl, by decide, rfl⟩ rfl rfl (Nat.le_of_ble_eq_true rfl) dX2_layOut_19 ?_
        have oi : XOK c (x_it by8 c v1 q1).2.1 := ok_it hl11_0 h1
        have ot := oi.2.2.2
        obtain ⟨k0, rfl⟩ : ∃ k0, kk = k0 + 1 := ⟨kk - 1, by omega⟩
        refine G.b_ne hX (tgt := 28) (by decide) dX2_layOut_22 (fun c22 => ?_) (fun c22 => ?_)
        · refine G.aload_n hX 0 rfl dX2_layOut_28 ?_
          refine G.get hX inc_X2_layOut_2 0 rfl rfl 4 (by decide) (by decide +kernel) rfl dX2_layOut_29 ?_
          refine G.z_ne hX (a := ((x_it by8 c v1 q1).2.1).2.2.1) (tgt := 37) (by omega) (by decide) dX2_layOut_32 (fun c32 => ?_) (fun c32 => ?_)
          · refine G.aload_n hX 0 rfl dX2_layOut_37 ?_
            refine G.get hX inc_X2_layOut_2 0 rfl rfl 4 (by decide) (by decide +kernel) rfl dX2_layOut_38 ?_
            refine G.iconst hX (v := 3) (by decide) dX2_layOut_41 ?_
            refine G.n_eq hX (a := ((x_it by8 c v1 q1).2.1).2.2.1) (b := 3) (tgt := 48) (by omega) (by omega) (by decide) dX2_layOut_42 (fun c42 => ?_) (fun c42 => ?_)
            · refine G.aload_n hX 0 rfl dX2_layOut_48 ?_
              refine G.vv hX (As := []) (st := []) (wr := [(a 0, avO a (((x_it by8 c v1 q1).2.2).1) (((x_it by8 c v1 q1).2.2).2.1)), (a 1, arI E 12 (((x_it by8 c v1 q1).2.2).2.2.1)), (a 2, arI E 12 (((x_it by8 c v1 q1).2.2).2.2.2.1)), (a 3, arI E 12 (((x_it by8 c v1 q1).2.2).2.2.2.2.1)), (a 4, arI E 96 (((x_it by8 c v1 q1).2.2).2.2.2.2.2))]) (wf := [(xt 0, txO xt (nI c) (nI ((x_adv by8 c ((x_it by8 c v1 q1).2.1)).1)) (nI ((x_adv by8 c ((x_it by8 c v1 q1).2.1)).2.1)) (nI ((x_adv by8 c ((x_it by8 c v1 q1).2.1)).2.2.1)) ((x_adv by8 c ((x_it by8 c v1 q1).2.1)).2.2.2)), (xt 1, arB E 120 by8), (a 0, avO a (((x_it by8 c v1 q1).2.2).1) (((x_it by8 c v1 q1).2.2).2.1)), (a 1, arI E 12 (((x_it by8 c v1 q1).2.2).2.2.1)), (a 2, arI E 12 (((x_it by8 c v1 q1).2.2).2.2.2.1)), (a 3, arI E 12 (((x_it by8 c v1 q1).2.2).2.2.2.2.1)), (a 4, arI E 96 (((x_it by8 c v1 q1).2.2).2.2.2.2.2))]) (q0 := 0) (ci := 2) rfl rfl (c_X2_advance _ E (q := (x_it by8 c v1 q1).2.1) (c := c) (xt := xt) (by8 := by8) (h1 := oi.2.1) (h2 := by omega)) gX2_layOut_X2_advance cp_X2_advance (by decide) [0, 1] [2, 3, 4, 5, 6] [5, 6, 0, 1, 2, 3, 4] ⟨rfl, rfl, by decide, rfl⟩ rfl rfl (Nat.le_of_ble_eq_true rfl) dX2_layOut_49 ?_
              refine G.iinc hX (n := 1) (lv' := [(2, .int (nI (nn + 1))), (0, .ref (xt 0)), (1, .ref (a 0))]) 2 rfl (inc_nI nn 1 rfl) (by decide) rfl dX2_layOut_52 ?_
              refine G.goto hX (tgt := 11) (by decide) dX2_layOut_55 ?_
              refine G.lvp (lv' := [(0, .ref (xt 0)), (1, .ref (a 0)), (2, .int (nI (nn + 1)))]) [1, 2, 0] rfl ?_
              refine G.lve (lv' := [(0, .ref (xt 0)), (1, .ref (a 0)), (2, .int (nI ((nn + 1))))]) (by rfl) ?_
              refine G.we (ws' := [(xt 0, txO xt (nI c) (nI ((x_adv by8 c (x_it by8 c v1 q1).2.1).1)) (nI ((x_adv by8 c (x_it by8 c v1 q1).2.1).2.1)) (nI ((x_adv by8 c (x_it by8 c v1 q1).2.1).2.2.1)) ((x_adv by8 c (x_it by8 c v1 q1).2.1).2.2.2)), (xt 1, arB E 120 by8), (a 0, avO a (((x_it by8 c v1 q1).2.2).1) (((x_it by8 c v1 q1).2.2).2.1)), (a 1, arI E 12 (((x_it by8 c v1 q1).2.2).2.2.1)), (a 2, arI E 12 (((x_it by8 c v1 q1).2.2).2.2.2.1)), (a 3, arI E 12 (((x_it by8 c v1 q1).2.2).2.2.2.2.1)), (a 4, arI E 96 (((x_it by8 c v1 q1).2.2).2.2.2.2.2))]) (by rfl) ?_
              exact ih11 k0 ((x_it by8 c v1 q1).2.2) (x_adv by8 c (x_it by8 c v1 q1).2.1) (nn + 1) (ok_adv oi.2.1 h1) (by omega) (by rw [hl11_2, x_lL, if_pos c22, if_neg c32, if_pos c42]) (by omega)
            · refine G.goto hX (tgt := 58) (by decide) dX2_layOut_45 ?_
              refine G.iconst hX (v := -1) (by decide) dX2_layOut_58 ?_
              refine G.aload_n hX 0 rfl dX2_layOut_59 ?_
              refine G.get hX inc_X2_layOut_2 0 rfl rfl 2 (by decide) (by decide +kernel) rfl dX2_layOut_60 ?_
              refine G.isub hX dX2_layOut_63 ?_
              exact G.iret hX hQ dX2_layOut_64 (by first | (rw [hl11_2]; simp only [x_lL, x_no, c14, c22, c32, c42, ↓reduceIte, Bool.false_eq_true]; done) | (obtain rfl : kk = 0 := (by omega); rw [hl11_2, x_lL]; done)) (by first | (rw [hl11_2]; simp only [x_lL, x_no, c14, c22, c32, c42, ↓reduceIte, Bool.false_eq_true]; done) | (obtain rfl : kk = 0 := (by omega); rw [hl11_2, x_lL]; done))
          · refine G.iload_n hX 2 rfl dX2_layOut_35 ?_
            exact G.iret hX hQ dX2_layOut_36 (by first | (rw [hl11_2]; simp only [x_lL, x_no, c14, c22, c32, ↓reduceIte, Bool.false_eq_true]; done) | (obtain rfl : kk = 0 := (by omega); rw [hl11_2, x_lL]; done)) (by first | (rw [hl11_2]; simp only [x_lL, x_no, c14, c22, c32, ↓reduceIte, Bool.false_eq_true]; done) | (obtain rfl : kk = 0 := (by omega); rw [hl11_2, x_lL]; done))
        · refine G.goto hX (tgt := 58) (by decide) dX2_layOut_25 ?_
          refine G.iconst hX (v := -1) (by decide) dX2_layOut_58 ?_
          refine G.aload_n hX 0 rfl dX2_layOut_59 ?_
          refine G.get hX inc_X2_layOut_2 0 rfl rfl 2 (by decide) (by decide +kernel) rfl dX2_layOut_60 ?_
          refine G.isub hX dX2_layOut_63 ?_
          exact G.iret hX hQ dX2_layOut_64 (by first | (rw [hl11_2]; simp only [x_lL, x_no, c14, c22, ↓reduceIte, Bool.false_eq_true]; done) | (obtain rfl : kk = 0 := (by omega); rw [hl11_2, x_lL]; done)) (by first | (rw [hl11_2]; simp only [x_lL, x_no, c14, c22, ↓reduceIte, Bool.false_eq_true]; done) | (obtain rfl : kk = 0 := (by omega); rw [hl11_2, x_lL]; done))
  refine G.lvp (lv' := [(0, .ref (xt 0)), (1, .ref (a 0)), (2, .int 1)]) [1, 2, 0] rfl ?_
  refine G.lve (lv' := [(0, .ref (xt 0)), (1, .ref (a 0)), (2, .int (nI 1))]) (by rfl) ?_
  exact L11 121 120 v (x_q0 by8 c q) 1 (ok_adv (Nat.zero_le _) h1) (by omega) (by rw [← h2, x_lo]) (by omega)
