abbrev rmX2_takeNumber : Room := { frames := 2, cells := 0, slots := 0, locals := 40 }
theorem cp_X2_takeNumber : CP yX2_takeNumber RX2 wsX2_takeNumber 3 1 rmX2_takeNumber := ⟨⟨_, _, _, rfl⟩, rfl, rfl, by decide +kernel⟩
theorem inc_X2_takeNumber_2 : ∀ w ∈ u_ws RX2 TX2 6, w ∈ wsX2_takeNumber := by decide +kernel
set_option maxHeartbeats 4000000 in
set_option maxRecDepth 100000 in
theorem c_X2_takeNumber (l : Launch) (E : EV) (mx : Nat) (q : XQ) (c : Nat) (xt : Nat → Nat) (by8 : Nat → Int32) (h1 : XOK c q) (h2 : c ≤ 120) (h3 : mx < 2000) : CI l yX2_takeNumber wsX2_takeNumber rmX2_takeNumber E [.ref (xt 0), .int (nI mx)] [(xt 0, txO xt (nI c) (nI q.1) (nI q.2.1) (nI q.2.2.1) q.2.2.2), (xt 1, arB E 120 by8)] [(xt 0, txO xt (nI c) (nI ((x_tn by8 c mx q).1)) (nI ((x_tn by8 c mx q).2.1)) (nI ((x_tn by8 c mx q).2.2.1)) ((x_tn by8 c mx q).2.2.2)), (xt 1, arB E 120 by8)] (x_nr mx q) := by
  obtain ⟨hb0, hb1, -, hb3⟩ := id h1
  refine CI.of (own := RX2) (cc := cX2_takeNumber) (nL := 3) (rt := (some .int)) (by decide) rfl rfl (Nat.le_of_ble_eq_true rfl) (fun X hX hQ => ?_)
  show G E X 3 0 [(0, .ref (xt 0)), (1, .int (nI mx))] [] [(xt 0, txO xt (nI c) (nI q.1) (nI q.2.1) (nI q.2.2.1) q.2.2.2), (xt 1, arB E 120 by8)]
  refine G.aload_n hX 0 rfl dX2_takeNumber_0 ?_
  refine G.get hX inc_X2_takeNumber_2 0 rfl rfl 4 (by decide) (by decide +kernel) rfl dX2_takeNumber_1 ?_
  refine G.iconst hX (v := 2) (by decide) dX2_takeNumber_4 ?_
  refine G.n_ne hX (a := q.2.2.1) (b := 2) (tgt := 16) (by omega) (by omega) (by decide) dX2_takeNumber_5 (fun c5 => ?_) (fun c5 => ?_)
  · refine G.iconst hX (v := -1) (by decide) dX2_takeNumber_16 ?_
    exact G.iret hX hQ dX2_takeNumber_17 (by first | rfl | (simp only [x_nr, x_nOK, c5, ↓reduceIte, Bool.not_true, Bool.not_false, Bool.and_true, Bool.true_and, Bool.and_false, Bool.false_and, Bool.or_true, Bool.true_or, Bool.or_false, Bool.false_or, decide_true, decide_false, not_true_eq_false, not_false_eq_true, Bool.false_eq_true, Bool.true_eq_false]; done) | (simp only [x_nr, x_nOK, c5, ↓reduceIte, Bool.not_true, Bool.not_false, Bool.and_true, Bool.true_and, Bool.and_false, Bool.false_and, Bool.or_true, Bool.true_or, Bool.or_false, Bool.false_or, decide_true, decide_false, not_true_eq_false, not_false_eq_true, Bool.false_eq_true, Bool.true_eq_false]; rfl) | (simp [x_nr, x_nOK, c5]; done)) (by first | rfl | (simp only [x_tn, x_nOK, c5, ↓reduceIte, Bool.not_true, Bool.not_false, Bool.and_true, Bool.true_and, Bool.and_false, Bool.false_and, Bool.or_true, Bool.true_or, Bool.or_false, Bool.false_or, decide_true, decide_false, not_true_eq_false, not_false_eq_true, Bool.false_eq_true, Bool.true_eq_false]; done) | (simp only [x_tn, x_nOK, c5, ↓reduceIte, Bool.not_true, Bool.not_false, Bool.and_true, Bool.true_and, Bool.and_false, Bool.false_and, Bool.or_true, Bool.true_or, Bool.or_false, Bool.false_or, decide_true, decide_false, not_true_eq_false, not_false_eq_true, Bool.false_eq_true, Bool.true_eq_false]; rfl) | (simp [x_tn, x_nOK, c5]; done))
  · refine G.aload_n hX 0 rfl dX2_takeNumber_8 ?_
    refine G.get hX inc_X2_takeNumber_2 0 rfl rfl 5 (by decide) (by decide +kernel) rfl dX2_takeNumber_9 ?_
    refine G.iload_n hX 1 rfl dX2_takeNumber_12 ?_
    refine G.icmp_le hX (tgt := 18) (by decide) dX2_takeNumber_13 (fun c13 => ?_) (fun c13 => ?_)
    · refine G.aload_n hX 0 rfl dX2_takeNumber_18 ?_
      refine G.get hX inc_X2_takeNumber_2 0 rfl rfl 5 (by decide) (by decide +kernel) rfl dX2_takeNumber_19 ?_
      refine G.istore_n hX (lv' := [(2, .int q.2.2.2), (0, .ref (xt 0)), (1, .int (nI mx))]) rfl (by decide) rfl dX2_takeNumber_22 ?_
      refine G.aload_n hX 1 rfl dX2_takeNumber_23 ?_
      refine G.vv hX (As := []) (st := []) (wr := []) (wf := [(xt 0, txO xt (nI c) (nI ((x_adv by8 c q).1)) (nI ((x_adv by8 c q).2.1)) (nI ((x_adv by8 c q).2.2.1)) ((x_adv by8 c q).2.2.2)), (xt 1, arB E 120 by8)]) (q0 := 0) (ci := 2) rfl rfl (c_X2_advance _ E (q := q) (c := c) (xt := xt) (by8 := by8) (h1 := by omega) (h2 := by omega)) gX2_takeNumber_X2_advance cp_X2_advance (by decide) [0, 1] [] [0, 1] ⟨rfl, rfl, by decide, rfl⟩ rfl rfl (Nat.le_of_ble_eq_true rfl) dX2_takeNumber_24 ?_
      refine G.iload_n hX 0 rfl dX2_takeNumber_27 ?_
      exact G.iret hX hQ dX2_takeNumber_28 (by first | rfl | (simp only [x_nr, x_nOK, c5, c13, ↓reduceIte, Bool.not_true, Bool.not_false, Bool.and_true, Bool.true_and, Bool.and_false, Bool.false_and, Bool.or_true, Bool.true_or, Bool.or_false, Bool.false_or, decide_true, decide_false, not_true_eq_false, not_false_eq_true, Bool.false_eq_true, Bool.true_eq_false]; done) | (simp only [x_nr, x_nOK, c5, c13, ↓reduceIte, Bool.not_true, Bool.not_false, Bool.and_true, Bool.true_and, Bool.and_false, Bool.false_and, Bool.or_true, Bool.true_or, Bool.or_false, Bool.false_or, decide_true, decide_false, not_true_eq_false, not_false_eq_true, Bool.false_eq_true, Bool.true_eq_false]; rfl) | (simp [x_nr, x_nOK, c5, c13]; done)) (by first | rfl | (simp only [x_tn, x_nOK, c5, c13, ↓reduceIte, Bool.not_true, Bool.not_false, Bool.and_true, Bool.true_and, Bool.and_false, Bool.false_and, Bool.or_true, Bool.true_or, Bool.or_false, Bool.false_or, decide_true, decide_false, not_true_eq_false, not_false_eq_true, Bool.false_eq_true, Bool.true_eq_false]; done) | (simp only [x_tn, x_nOK, c5, c13, ↓reduceIte, Bool.not_true, Bool.not_false, Bool.and_true, Bool.true_and, Bool.and_false, Bool.false_and, Bool.or_true, Bool.true_or, Bool.or_false, Bool.false_or, decide_true, decide_false, not_true_eq_false, not_false_eq_true, Bool.false_eq_true, Bool.true_eq_false]; rfl) | (simp [x_tn, x_nOK, c5, c13]; done))
    · refine G.iconst hX (v := -1) (by decide) dX2_takeNumber_16 ?_
      exact G.iret hX hQ dX2_takeNumber_17 (by first | rfl | (simp only [x_nr, x_nOK, c5, c13, ↓reduceIte, Bool.not_true, Bool.not_false, Bool.and_true, Bool.true_and, Bool.and_false, Bool.false_and, Bool.or_true, Bool.true_or, Bool.or_false, Bool.false_or, decide_true, decide_false, not_true_eq_false, not_false_eq_true, Bool.false_eq_true, Bool.true_eq_false]; done) | (simp only [x_nr, x_nOK, c5, c13, ↓reduceIte, Bool.not_true, Bool.not_false, Bool.and_true, Bool.true_and, Bool.and_false, Bool.false_and, Bool.or_true, Bool.true_or, Bool.or_false, Bool.false_or, decide_true, decide_false, not_true_eq_false, not_false_eq_true, Bool.false_eq_true, Bool.true_eq_false]; rfl) | (simp [x_nr, x_nOK, c5, c13]; done)) (by first | rfl | (simp only [x_tn, x_nOK, c5, c13, ↓reduceIte, Bool.not_true, Bool.not_false, Bool.and_true, Bool.true_and, Bool.and_false, Bool.false_and, Bool.or_true, Bool.true_or, Bool.or_false, Bool.false_or, decide_true, decide_false, not_true_eq_false, not_false_eq_true, Bool.false_eq_true, Bool.true_eq_false]; done) | (simp only [x_tn, x_nOK, c5, c13, ↓reduceIte, Bool.not_true, Bool.not_false, Bool.and_true, Bool.true_and, Bool.and_false, Bool.false_and, Bool.or_true, Bool.true_or, Bool.or_false, Bool.false_or, decide_true, decide_false, not_true_eq_false, not_false_eq_true, Bool.false_eq_true, Bool.true_eq_false]; rfl) | (simp [x_tn, x_nOK, c5, c13]; done))
abbrev rmX2_takeWord : Room := { frames := 4, cells := 0, slots := 0, locals := 85 }
theorem cp_X2_takeWord : CP yX2_takeWord RX2 wsX2_takeWord 3 1 rmX2_takeWord := ⟨⟨_, _, _, rfl⟩, rfl, rfl, by decide +kernel⟩
theorem inc_X2_takeWord_2 : ∀ w ∈ u_ws RX2 TX2 6, w ∈ wsX2_takeWord := by decide +kernel
set_option maxHeartbeats 4000000 in
set_option maxRecDepth 100000 in
theorem c_X2_takeWord (l : Launch) (E : EV) (i : Nat) (q : XQ) (c : Nat) (xt : Nat → Nat) (by8 : Nat → Int32) (h1 : XOK c q) (h2 : c ≤ 120) (h3 : i < 11) : CI l yX2_takeWord wsX2_takeWord rmX2_takeWord E [.ref (xt 0), .ref (adK E i)] [(xt 0, txO xt (nI c) (nI q.1) (nI q.2.1) (nI q.2.2.1) q.2.2.2), (xt 1, arB E 120 by8)] [(xt 0, txO xt (nI c) (nI ((x_tw by8 c i q).1)) (nI ((x_tw by8 c i q).2.1)) (nI ((x_tw by8 c i q).2.2.1)) ((x_tw by8 c i q).2.2.2)), (xt 1, arB E 120 by8)] (bI (x_wOK by8 i q)) := by
  obtain ⟨hb0, hb1, -, hb3⟩ := id h1
  have hsm := jsL_small i
  refine CI.of (own := RX2) (cc := cX2_takeWord) (nL := 3) (rt := (some .boolean)) (by decide) rfl rfl (Nat.le_of_ble_eq_true rfl) (fun X hX hQ => ?_)
  show G E X 3 0 [(0, .ref (xt 0)), (1, .ref (adK E i))] [] [(xt 0, txO xt (nI c) (nI q.1) (nI q.2.1) (nI q.2.2.1) q.2.2.2), (xt 1, arB E 120 by8)]
  refine G.aload_n hX 0 rfl dX2_takeWord_0 ?_
  refine G.get hX inc_X2_takeWord_2 0 rfl rfl 4 (by decide) (by decide +kernel) rfl dX2_takeWord_1 ?_
  refine G.iconst hX (v := 1) (by decide) dX2_takeWord_4 ?_
  refine G.n_ne hX (a := q.2.2.1) (b := 1) (tgt := 24) (by omega) (by omega) (by decide) dX2_takeWord_5 (fun c5 => ?_) (fun c5 => ?_)
  · have eo : x_wOK by8 i q = false := by simp only [x_wOK, c5, decide_true, decide_false, Bool.and_true, Bool.true_and, Bool.and_self, Bool.and_false, Bool.false_and]
    refine G.iconst hX (v := 0) (by decide) dX2_takeWord_24 ?_
    exact G.zret hX hQ rfl dX2_takeWord_25 (by rw [eo]; rfl) (by rw [x_tw, eo]; rfl)
  · refine G.aload_n hX 0 rfl dX2_takeWord_8 ?_
    refine G.get hX inc_X2_takeWord_2 0 rfl rfl 3 (by decide) (by decide +kernel) rfl dX2_takeWord_9 ?_
    refine G.aload_n hX 0 rfl dX2_takeWord_12 ?_
    refine G.get hX inc_X2_takeWord_2 0 rfl rfl 2 (by decide) (by decide +kernel) rfl dX2_takeWord_13 ?_
    refine G.isub hX dX2_takeWord_16 ?_
    refine G.ie (pk_sub (a := q.2.1) (b := q.1) (by omega)) ?_
    refine G.aload_n hX 1 rfl dX2_takeWord_17 ?_
    refine G.kvi hX (i := i) (As := []) (st := [.int (nI (q.2.1 - q.1))]) (by omega) (c_J0_length_8abf5 _ E (i := i) (hi := by omega)) gX2_takeWord_J0_length_8abf5 cp_J0_length_8abf5 (by decide) rfl rfl (Nat.le_of_ble_eq_true rfl) dX2_takeWord_18 ?_
    refine G.n_eq hX (a := q.2.1 - q.1) (b := jsL.getD i 0) (tgt := 26) (by omega) (by omega) (by decide) dX2_takeWord_21 (fun c21 => ?_) (fun c21 => ?_)
    · refine G.iconst hX (v := 0) (by decide) dX2_takeWord_26 ?_
      refine G.istore_n hX (lv' := [(2, .int 0), (0, .ref (xt 0)), (1, .ref (adK E i))]) rfl (by decide) rfl dX2_takeWord_27 ?_
      have L28 : ∀ (n : Nat) (j : Nat), j ≤ jsL.getD i 0 → ff (x_wP by8 q.1 i) (jsL.getD i 0) 0 = ff (x_wP by8 q.1 i) (jsL.getD i 0 - j) j → jsL.getD i 0 + 1 ≤ j + n → G E X 3 28 [(0, .ref (xt 0)), (1, .ref (adK E i)), (2, .int (nI j))] [] [(xt 0, txO xt (nI c) (nI q.1) (nI q.2.1) (nI q.2.2.1) q.2.2.2), (xt 1, arB E 120 by8)] := by
        intro n
        induction n with
        | zero => intro j hl28_0 hl28_1 hl28_2; exact absurd hl28_2 (by omega)
        | succ n ih28 =>
          intro j hl28_0 hl28_1 hl28_2
          refine G.iload_n hX 2 rfl dX2_takeWord_28 ?_
          refine G.aload_n hX 1 rfl dX2_takeWord_29 ?_
          refine G.kvi hX (i := i) (As := []) (st := [.int (nI j)]) (by omega) (c_J0_length_8abf5 _ E (i := i) (hi := by omega)) gX2_takeWord_J0_length_8abf5 cp_J0_length_8abf5 (by decide) rfl rfl (Nat.le_of_ble_eq_true rfl) dX2_takeWord_30 ?_
          refine G.n_ge hX (a := j) (b := jsL.getD i 0) (tgt := 63) (by omega) (by omega) (by decide) dX2_takeWord_33 (fun c33 => ?_) (fun c33 => ?_)
          · have er : ff (x_wP by8 q.1 i) (jsL.getD i 0) 0 = j := by obtain rfl : j = jsL.getD i 0 := (by omega); rw [hl28_1, Nat.sub_self]; rfl
            have eo : x_wOK by8 i q = true := by simp only [x_wOK, er, c5, c21, c33, decide_true, decide_false, Bool.and_true, Bool.true_and, Bool.and_self, Bool.and_false, Bool.false_and]
            refine G.aload_n hX 0 rfl dX2_takeWord_63 ?_
            refine G.vv hX (As := []) (st := []) (wr := []) (wf := [(xt 0, txO xt (nI c) (nI ((x_adv by8 c q).1)) (nI ((x_adv by8 c q).2.1)) (nI ((x_adv by8 c q).2.2.1)) ((x_adv by8 c q).2.2.2)), (xt 1, arB E 120 by8)]) (q0 := 0) (ci := 2) rfl rfl (c_X2_advance _ E (q := q) (c := c) (xt := xt) (by8 := by8) (h1 := by omega) (h2 := by omega)) gX2_takeWord_X2_advance cp_X2_advance (by decide) [0, 1] [] [0, 1] ⟨rfl, rfl, by decide, rfl⟩ rfl rfl (Nat.le_of_ble_eq_true rfl) dX2_takeWord_64 ?_
            refine G.iconst hX (v := 1) (by decide) dX2_takeWord_67 ?_
            exact G.zret hX hQ rfl dX2_takeWord_68 (by rw [eo]; rfl) (by rw [x_tw, eo]; rfl)
          · refine G.aload_n hX 0 rfl dX2_takeWord_36 ?_
            refine G.get hX inc_X2_takeWord_2 0 rfl rfl 1 (by decide) (by decide +kernel) rfl dX2_takeWord_37 ?_
            refine G.aload_n hX 0 rfl dX2_takeWord_40 ?_
            refine G.get hX inc_X2_takeWord_2 0 rfl rfl 2 (by decide) (by decide +kernel) rfl dX2_takeWord_41 ?_
            refine G.iload_n hX 2 rfl dX2_takeWord_44 ?_
            refine G.iadd hX dX2_takeWord_45 ?_
            refine G.ie (nI_add q.1 j) ?_
            refine G.bald hX (j := q.1 + j) 1 rfl (by omega) (by omega) dX2_takeWord_46 ?_
            refine G.aload_n hX 1 rfl dX2_takeWord_47 ?_
            refine G.iload_n hX 2 rfl dX2_takeWord_48 ?_
            refine G.kvi hX (i := i) (As := [.int (nI j)]) (st := [.int (by8 (q.1 + j))]) (by omega) (c_J0_charAt_5068e _ E (i := i) (k := j) (hi := by omega) (hk := by omega)) gX2_takeWord_J0_charAt_5068e cp_J0_charAt_5068e (by decide) rfl rfl (Nat.le_of_ble_eq_true rfl) dX2_takeWord_49 ?_
            refine G.icmp_eq hX (tgt := 57) (by decide) dX2_takeWord_52 (fun c52 => ?_) (fun c52 => ?_)
            · refine G.iinc hX (n := 1) (lv' := [(2, .int (nI (j + 1))), (0, .ref (xt 0)), (1, .ref (adK E i))]) 2 rfl (inc_nI j 1 rfl) (by decide) rfl dX2_takeWord_57 ?_
              refine G.goto hX (tgt := 28) (by decide) dX2_takeWord_60 ?_
              refine G.lvp (lv' := [(0, .ref (xt 0)), (1, .ref (adK E i)), (2, .int (nI (j + 1)))]) [1, 2, 0] rfl ?_
              refine G.lve (lv' := [(0, .ref (xt 0)), (1, .ref (adK E i)), (2, .int (nI ((j + 1))))]) (by rfl) ?_
              exact ih28 (j + 1) (by omega) (by rw [hl28_1]; exact ff_f (by omega) (by simp [x_wP, c52])) (by omega)
            · have er : ff (x_wP by8 q.1 i) (jsL.getD i 0) 0 = j := by rw [hl28_1]; exact ff_t (by omega) (by simp [x_wP, c52])
              have eo : x_wOK by8 i q = false := by have e9 : ¬ jsL.getD i 0 ≤ j := (by omega); simp only [x_wOK, er, e9, decide_true, decide_false, Bool.and_true, Bool.true_and, Bool.and_self, Bool.and_false, Bool.false_and]
              refine G.iconst hX (v := 0) (by decide) dX2_takeWord_55 ?_
              exact G.zret hX hQ rfl dX2_takeWord_56 (by rw [eo]; rfl) (by rw [x_tw, eo]; rfl)
      refine G.lvp (lv' := [(0, .ref (xt 0)), (1, .ref (adK E i)), (2, .int 0)]) [1, 2, 0] rfl ?_
      refine G.lve (lv' := [(0, .ref (xt 0)), (1, .ref (adK E i)), (2, .int (nI 0))]) (by rfl) ?_
      exact L28 (jsL.getD i 0 + 1) 0 (by omega) rfl (by omega)
    · have eo : x_wOK by8 i q = false := by simp only [x_wOK, c5, c21, decide_true, decide_false, Bool.and_true, Bool.true_and, Bool.and_self, Bool.and_false, Bool.false_and]
      refine G.iconst hX (v := 0) (by decide) dX2_takeWord_24 ?_
      exact G.zret hX hQ rfl dX2_takeWord_25 (by rw [eo]; rfl) (by rw [x_tw, eo]; rfl)
abbrev rmX2_nameOf : Room := { frames := 0, cells := 0, slots := 0, locals := 0 }
theorem cp_X2_nameOf : CP yX2_nameOf RX2 wsX2_nameOf 1 1 rmX2_nameOf := ⟨⟨_, _, _, rfl⟩, rfl, rfl, by decide +kernel⟩
set_option maxHeartbeats 4000000 in
set_option maxRecDepth 100000 in
theorem c_X2_nameOf0 (l : Launch) (E : EV)   : CR l yX2_nameOf wsX2_nameOf rmX2_nameOf E [.int 0] [] [] (adK E 0) := by
  refine CR.of (own := RX2) (cc := cX2_nameOf) (nL := 1) (rt := (some (.object "java/lang/String"))) (by decide) rfl rfl (Nat.le_of_ble_eq_true rfl) (fun X hX hQ => ?_)
  show G E X 1 0 [(0, .int 0)] [] []
  refine G.iload_n hX 0 rfl dX2_nameOf_0 ?_
  refine G.tout hX (tgt := 51) dX2_nameOf_1 (by decide) (by decide) ?_
  refine G.ldcS hX 0 (by decide) rfl rfl dX2_nameOf_51 ?_
  exact G.aret hX hQ dX2_nameOf_53 (by rfl) (by rfl)
set_option maxHeartbeats 4000000 in
set_option maxRecDepth 100000 in
theorem c_X2_nameOf1 (l : Launch) (E : EV)   : CR l yX2_nameOf wsX2_nameOf rmX2_nameOf E [.int 1] [] [] (adK E 1) := by
  refine CR.of (own := RX2) (cc := cX2_nameOf) (nL := 1) (rt := (some (.object "java/lang/String"))) (by decide) rfl rfl (Nat.le_of_ble_eq_true rfl) (fun X hX hQ => ?_)
  show G E X 1 0 [(0, .int 1)] [] []
  refine G.iload_n hX 0 rfl dX2_nameOf_0 ?_
  refine G.tin hX (tgt := 36) dX2_nameOf_1 (by decide) (by decide) rfl (by decide) ?_
  refine G.ldcS hX 1 (by decide) rfl rfl dX2_nameOf_36 ?_
  exact G.aret hX hQ dX2_nameOf_38 (by rfl) (by rfl)
set_option maxHeartbeats 4000000 in
set_option maxRecDepth 100000 in
theorem c_X2_nameOf2 (l : Launch) (E : EV)   : CR l yX2_nameOf wsX2_nameOf rmX2_nameOf E [.int 2] [] [] (adK E 2) := by
  refine CR.of (own := RX2) (cc := cX2_nameOf) (nL := 1) (rt := (some (.object "java/lang/String"))) (by decide) rfl rfl (Nat.le_of_ble_eq_true rfl) (fun X hX hQ => ?_)
  show G E X 1 0 [(0, .int 2)] [] []
  refine G.iload_n hX 0 rfl dX2_nameOf_0 ?_
  refine G.tin hX (tgt := 39) dX2_nameOf_1 (by decide) (by decide) rfl (by decide) ?_
  refine G.ldcS hX 2 (by decide) rfl rfl dX2_nameOf_39 ?_
  exact G.aret hX hQ dX2_nameOf_41 (by rfl) (by rfl)
set_option maxHeartbeats 4000000 in
set_option maxRecDepth 100000 in
theorem c_X2_nameOf3 (l : Launch) (E : EV)   : CR l yX2_nameOf wsX2_nameOf rmX2_nameOf E [.int 3] [] [] (adK E 3) := by
  refine CR.of (own := RX2) (cc := cX2_nameOf) (nL := 1) (rt := (some (.object "java/lang/String"))) (by decide) rfl rfl (Nat.le_of_ble_eq_true rfl) (fun X hX hQ => ?_)
  show G E X 1 0 [(0, .int 3)] [] []
  refine G.iload_n hX 0 rfl dX2_nameOf_0 ?_
  refine G.tin hX (tgt := 42) dX2_nameOf_1 (by decide) (by decide) rfl (by decide) ?_
  refine G.ldcS hX 3 (by decide) rfl rfl dX2_nameOf_42 ?_
  exact G.aret hX hQ dX2_nameOf_44 (by rfl) (by rfl)
set_option maxHeartbeats 4000000 in
set_option maxRecDepth 100000 in
theorem c_X2_nameOf4 (l : Launch) (E : EV)   : CR l yX2_nameOf wsX2_nameOf rmX2_nameOf E [.int 4] [] [] (adK E 4) := by
  refine CR.of (own := RX2) (cc := cX2_nameOf) (nL := 1) (rt := (some (.object "java/lang/String"))) (by decide) rfl rfl (Nat.le_of_ble_eq_true rfl) (fun X hX hQ => ?_)
  show G E X 1 0 [(0, .int 4)] [] []
  refine G.iload_n hX 0 rfl dX2_nameOf_0 ?_
  refine G.tin hX (tgt := 45) dX2_nameOf_1 (by decide) (by decide) rfl (by decide) ?_
  refine G.ldcS hX 4 (by decide) rfl rfl dX2_nameOf_45 ?_
  exact G.aret hX hQ dX2_nameOf_47 (by rfl) (by rfl)
set_option maxHeartbeats 4000000 in
set_option maxRecDepth 100000 in
theorem c_X2_nameOf5 (l : Launch) (E : EV)   : CR l yX2_nameOf wsX2_nameOf rmX2_nameOf E [.int 5] [] [] (adK E 5) := by
  refine CR.of (own := RX2) (cc := cX2_nameOf) (nL := 1) (rt := (some (.object "java/lang/String"))) (by decide) rfl rfl (Nat.le_of_ble_eq_true rfl) (fun X hX hQ => ?_)
  show G E X 1 0 [(0, .int 5)] [] []
  refine G.iload_n hX 0 rfl dX2_nameOf_0 ?_
  refine G.tin hX (tgt := 48) dX2_nameOf_1 (by decide) (by decide) rfl (by decide) ?_
  refine G.ldcS hX 5 (by decide) rfl rfl dX2_nameOf_48 ?_
  exact G.aret hX hQ dX2_nameOf_50 (by rfl) (by rfl)
set_option maxHeartbeats 4000000 in
set_option maxRecDepth 100000 in
theorem c_X2_nameOf (l : Launch) (E : EV) (k : Nat) (h1 : k < 6) : CR l yX2_nameOf wsX2_nameOf rmX2_nameOf E [.int (nI k)] [] [] (adK E k) := by
  match k, h1 with
  | 0, _ => exact c_X2_nameOf0 l E
  | 1, _ => exact c_X2_nameOf1 l E
  | 2, _ => exact c_X2_nameOf2 l E
  | 3, _ => exact c_X2_nameOf3 l E
  | 4, _ => exact c_X2_nameOf4 l E
  | 5, _ => exact c_X2_nameOf5 l E
  | k + 6, h9 => exact absurd h9 (by omega)
