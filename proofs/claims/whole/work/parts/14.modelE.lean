abbrev rmX4_byteAt : Room := { frames := 0, cells := 0, slots := 0, locals := 0 }
theorem cp_X4_byteAt : CP yX4_byteAt RX4 wsX4_byteAt 2 1 rmX4_byteAt := ⟨⟨_, _, _, rfl⟩, rfl, rfl, by decide +kernel⟩
theorem inc_X4_byteAt_4 : ∀ w ∈ u_ws RX4 TX4 19, w ∈ wsX4_byteAt := by decide +kernel
set_option maxHeartbeats 4000000 in
set_option maxRecDepth 100000 in
theorem c_X4_byteAt (l : Launch) (E : EV) (k : Nat) (c : Nat) (o : Nat → Nat) (ik : Int32) (be : Int32) (so : Int32) (fr : Int32) (tq : Int32) (vl : Int32) (wr : Int32) (tap : Nat → Int32) (h1 : c ≤ 120) (h2 : k ≤ 120) : CI l yX4_byteAt wsX4_byteAt rmX4_byteAt E [.ref (o 0), .int (nI k)] [(o 0, moO o ik be so (nI c) fr tq vl wr), (o 7, arI E 120 tap)] [(o 0, moO o ik be so (nI c) fr tq vl wr), (o 7, arI E 120 tap)] (ms_by tap c k) := by
  refine CI.of (own := RX4) (cc := cX4_byteAt) (nL := 2) (rt := (some .int)) (by decide) rfl rfl (Nat.le_of_ble_eq_true rfl) (fun X hX hQ => ?_)
  show G E X 2 0 [(0, .ref (o 0)), (1, .int (nI k))] [] [(o 0, moO o ik be so (nI c) fr tq vl wr), (o 7, arI E 120 tap)]
  refine G.iload_n hX 1 rfl dX4_byteAt_0 ?_
  refine G.aload_n hX 0 rfl dX4_byteAt_1 ?_
  refine G.get hX inc_X4_byteAt_4 0 rfl rfl 10 (by decide) (by decide +kernel) rfl dX4_byteAt_2 ?_
  refine G.n_ge hX (a := k) (b := c) (tgt := 17) (by omega) (by omega) (by decide) dX4_byteAt_5 (fun c5 => ?_) (fun c5 => ?_)
  · refine G.iconst hX (v := -1) (by decide) dX4_byteAt_17 ?_
    exact G.iret hX hQ dX4_byteAt_18 (by first | (rw [ms_by, if_pos c5]; done) | (rw [ms_by, if_neg (by omega)]; done)) (by rfl)
  · refine G.aload_n hX 0 rfl dX4_byteAt_8 ?_
    refine G.get hX inc_X4_byteAt_4 0 rfl rfl 9 (by decide) (by decide +kernel) rfl dX4_byteAt_9 ?_
    refine G.iload_n hX 1 rfl dX4_byteAt_12 ?_
    refine G.iald hX (j := k) 1 rfl (by omega) (by omega) dX4_byteAt_13 ?_
    refine G.goto hX (tgt := 18) (by decide) dX4_byteAt_14 ?_
    exact G.iret hX hQ dX4_byteAt_18 (by first | (rw [ms_by, if_pos c5]; done) | (rw [ms_by, if_neg (by omega)]; done)) (by rfl)
abbrev rmX4_token : Room := { frames := 2, cells := 0, slots := 0, locals := 45 }
theorem cp_X4_token : CP yX4_token RX4 wsX4_token 3 0 rmX4_token := ⟨⟨_, _, _, rfl⟩, rfl, rfl, by decide +kernel⟩
theorem inc_X4_token_4 : ∀ w ∈ u_ws RX4 TX4 19, w ∈ wsX4_token := by decide +kernel
set_option maxHeartbeats 4000000 in
set_option maxRecDepth 100000 in
theorem c_X4_token (l : Launch) (E : EV) (c : Nat) (k : Nat) (o : Nat → Nat) (ik : Int32) (be : Int32) (so : Int32) (fr : Int32) (vl : Int32) (wr : Int32) (tap : Nat → Int32) (h1 : k ≤ c) (h2 : c ≤ 120) : CV l yX4_token wsX4_token rmX4_token E [.ref (o 0)] [(o 0, moO o ik be so (nI c) fr (nI k) vl wr), (o 7, arI E 120 tap)] [(o 0, moO o ik be so (nI c) (nI (ms_fr tap c k)) (nI (ms_to tap c (ms_fr tap c k))) vl wr), (o 7, arI E 120 tap)] := by
  refine CV.of (own := RX4) (cc := cX4_token) (nL := 3) (rt := none) (by decide) rfl rfl (Nat.le_of_ble_eq_true rfl) (fun X hX hQ => ?_)
  show G E X 3 0 [(0, .ref (o 0))] [] [(o 0, moO o ik be so (nI c) fr (nI k) vl wr), (o 7, arI E 120 tap)]
  refine G.aload_n hX 0 rfl dX4_token_0 ?_
  refine G.aload_n hX 0 rfl dX4_token_1 ?_
  refine G.get hX inc_X4_token_4 0 rfl rfl 12 (by decide) (by decide +kernel) rfl dX4_token_2 ?_
  refine G.put hX (ws' := [(o 0, moO o ik be so (nI c) (nI k) (nI k) vl wr), (o 7, arI E 120 tap)]) inc_X4_token_4 tyX4 tyX4_ok nmX4 0 rfl rfl 11 (by decide) (by decide +kernel) rfl (tyX4_ok 11 (by decide)) rfl rfl (Nat.le_of_ble_eq_true rfl) rfl rfl dX4_token_5 ?_
  have L8 : ∀ (n : Nat) (j : Nat), k ≤ j → j ≤ c → ms_fr tap c k = ff (ms_skP tap c) (121 - j) j → c + 1 ≤ j + n → G E X 3 8 [(0, .ref (o 0))] [] [(o 0, moO o ik be so (nI c) (nI j) (nI k) vl wr), (o 7, arI E 120 tap)] := by
    intro n
    induction n with
    | zero => intro j hl8_0 hl8_1 hl8_2 hl8_3; exact absurd hl8_3 (by omega)
    | succ n ih8 =>
      intro j hl8_0 hl8_1 hl8_2 hl8_3
      have J34 : G E X 3 34 [(0, .ref (o 0))] [] [(o 0, moO o ik be so (nI c) (nI (ms_fr tap c k)) (nI k) vl wr), (o 7, arI E 120 tap)] := by
        have hfc : ms_fr tap c k ≤ c := fr_le h1 h2
        refine G.aload_n hX 0 rfl dX4_token_34 ?_
        refine G.aload_n hX 0 rfl dX4_token_35 ?_
        refine G.get hX inc_X4_token_4 0 rfl rfl 11 (by decide) (by decide +kernel) rfl dX4_token_36 ?_
        refine G.vi hX (As := [.int (nI (ms_fr tap c k))]) (st := []) (wr := []) (wf := [(o 0, moO o ik be so (nI c) (nI (ms_fr tap c k)) (nI k) vl wr), (o 7, arI E 120 tap)]) (q0 := 0) (ci := 4) rfl rfl (c_X4_byteAt _ E (k := ms_fr tap c k) (c := c) (o := o) (ik := ik) (be := be) (so := so) (fr := nI (ms_fr tap c k)) (tq := nI k) (vl := vl) (wr := wr) (tap := tap) (h1 := by omega) (h2 := by omega)) gX4_token_X4_byteAt cp_X4_byteAt (by decide) [0, 1] [] [0, 1] ⟨rfl, rfl, by decide, rfl⟩ rfl rfl (Nat.le_of_ble_eq_true rfl) dX4_token_39 ?_
        refine G.s0i hX (As := [.int (ms_by tap c (ms_fr tap c k))]) (st := []) (c_X4_isLetter _ E (x := ms_by tap c (ms_fr tap c k)) ) gX4_token_X4_isLetter cp_X4_isLetter (by decide) rfl rfl (Nat.le_of_ble_eq_true rfl) dX4_token_42 ?_
        refine G.istore_n hX (lv' := [(1, .int (bI (inI (ms_by tap c (ms_fr tap c k)) 97 122))), (0, .ref (o 0))]) rfl (by decide) rfl dX4_token_45 ?_
        refine G.aload_n hX 1 rfl dX4_token_46 ?_
        refine G.aload_n hX 1 rfl dX4_token_47 ?_
        refine G.get hX inc_X4_token_4 0 rfl rfl 11 (by decide) (by decide +kernel) rfl dX4_token_48 ?_
        refine G.vi hX (As := [.int (nI (ms_fr tap c k))]) (st := []) (wr := []) (wf := [(o 0, moO o ik be so (nI c) (nI (ms_fr tap c k)) (nI k) vl wr), (o 7, arI E 120 tap)]) (q0 := 0) (ci := 4) rfl rfl (c_X4_byteAt _ E (k := ms_fr tap c k) (c := c) (o := o) (ik := ik) (be := be) (so := so) (fr := nI (ms_fr tap c k)) (tq := nI k) (vl := vl) (wr := wr) (tap := tap) (h1 := by omega) (h2 := by omega)) gX4_token_X4_byteAt cp_X4_byteAt (by decide) [0, 1] [] [0, 1] ⟨rfl, rfl, by decide, rfl⟩ rfl rfl (Nat.le_of_ble_eq_true rfl) dX4_token_51 ?_
        refine G.s0i hX (As := [.int (ms_by tap c (ms_fr tap c k))]) (st := []) (c_X4_isDigit _ E (x := ms_by tap c (ms_fr tap c k)) ) gX4_token_X4_isDigit cp_X4_isDigit (by decide) rfl rfl (Nat.le_of_ble_eq_true rfl) dX4_token_54 ?_
        refine G.istore_n hX (lv' := [(2, .int (bI (inI (ms_by tap c (ms_fr tap c k)) 48 57))), (1, .int (bI (inI (ms_by tap c (ms_fr tap c k)) 97 122))), (0, .ref (o 0))]) rfl (by decide) rfl dX4_token_57 ?_
        have J83 : G E X 3 83 [(0, .ref (o 0)), (1, .int (bI (inI (ms_by tap c (ms_fr tap c k)) 97 122))), (2, .int (bI (inI (ms_by tap c (ms_fr tap c k)) 48 57)))] [.int (nI (ms_to0 c (ms_fr tap c k))), .ref (o 0)] [(o 0, moO o ik be so (nI c) (nI (ms_fr tap c k)) (nI k) vl wr), (o 7, arI E 120 tap)] := by
          refine G.put hX (ws' := [(o 0, moO o ik be so (nI c) (nI (ms_fr tap c k)) (nI (ms_to0 c (ms_fr tap c k))) vl wr), (o 7, arI E 120 tap)]) inc_X4_token_4 tyX4 tyX4_ok nmX4 0 rfl rfl 12 (by decide) (by decide +kernel) rfl (tyX4_ok 12 (by decide)) rfl rfl (Nat.le_of_ble_eq_true rfl) rfl rfl dX4_token_83 ?_
          have L86 : ∀ (n : Nat) (i : Nat), ms_to0 c (ms_fr tap c k) ≤ i → i ≤ c → ms_to tap c (ms_fr tap c k) = ff (ms_toP tap c (inI (ms_by tap c (ms_fr tap c k)) 97 122) (inI (ms_by tap c (ms_fr tap c k)) 48 57)) (121 - i) i → c + 1 ≤ i + n → G E X 3 86 [(0, .ref (o 0)), (1, .int (bI (inI (ms_by tap c (ms_fr tap c k)) 97 122))), (2, .int (bI (inI (ms_by tap c (ms_fr tap c k)) 48 57)))] [] [(o 0, moO o ik be so (nI c) (nI (ms_fr tap c k)) (nI i) vl wr), (o 7, arI E 120 tap)] := by
            intro n
            induction n with
            | zero => intro i hl86_0 hl86_1 hl86_2 hl86_3; exact absurd hl86_3 (by omega)
            | succ n ih86 =>
              intro i hl86_0 hl86_1 hl86_2 hl86_3
              have J135 : G E X 3 135 [(0, .ref (o 0))] [] [(o 0, moO o ik be so (nI c) (nI (ms_fr tap c k)) (nI (ms_to tap c (ms_fr tap c k))) vl wr), (o 7, arI E 120 tap)] := by
                exact G.vret hX hQ dX4_token_135 (by rfl)
              refine G.iload_n hX 1 rfl dX4_token_86 ?_
              refine G.b_eq hX (tgt := 104) (by decide) dX4_token_87 (fun c87 => ?_) (fun c87 => ?_)
              · refine G.iload_n hX 2 rfl dX4_token_104 ?_
                refine G.b_eq hX (tgt := 135) (by decide) dX4_token_105 (fun c105 => ?_) (fun c105 => ?_)
                · refine G.lvp (lv' := [(0, .ref (o 0))]) [0] rfl ?_
                  refine G.we (ws' := [(o 0, moO o ik be so (nI c) (nI (ms_fr tap c k)) (nI (ms_to tap c (ms_fr tap c k))) vl wr), (o 7, arI E 120 tap)]) (by rw [hl86_2, ff_t (by omega) (by simp [ms_toP, c87, c105])]) ?_
                  exact J135
                · refine G.aload_n hX 0 rfl dX4_token_108 ?_
                  refine G.aload_n hX 0 rfl dX4_token_109 ?_
                  refine G.get hX inc_X4_token_4 0 rfl rfl 12 (by decide) (by decide +kernel) rfl dX4_token_110 ?_
                  refine G.vi hX (As := [.int (nI i)]) (st := []) (wr := []) (wf := [(o 0, moO o ik be so (nI c) (nI (ms_fr tap c k)) (nI i) vl wr), (o 7, arI E 120 tap)]) (q0 := 0) (ci := 4) rfl rfl (c_X4_byteAt _ E (k := i) (c := c) (o := o) (ik := ik) (be := be) (so := so) (fr := nI (ms_fr tap c k)) (tq := nI i) (vl := vl) (wr := wr) (tap := tap) (h1 := by omega) (h2 := by omega)) gX4_token_X4_byteAt cp_X4_byteAt (by decide) [0, 1] [] [0, 1] ⟨rfl, rfl, by decide, rfl⟩ rfl rfl (Nat.le_of_ble_eq_true rfl) dX4_token_113 ?_
                  refine G.s0i hX (As := [.int (ms_by tap c i)]) (st := []) (c_X4_isDigit _ E (x := ms_by tap c i) ) gX4_token_X4_isDigit cp_X4_isDigit (by decide) rfl rfl (Nat.le_of_ble_eq_true rfl) dX4_token_116 ?_
                  refine G.b_eq hX (tgt := 135) (by decide) dX4_token_119 (fun c119 => ?_) (fun c119 => ?_)
                  · refine G.lvp (lv' := [(0, .ref (o 0))]) [0] rfl ?_
                    refine G.we (ws' := [(o 0, moO o ik be so (nI c) (nI (ms_fr tap c k)) (nI (ms_to tap c (ms_fr tap c k))) vl wr), (o 7, arI E 120 tap)]) (by rw [hl86_2, ff_t (by omega) (by simp [ms_toP, c87, c105, c119])]) ?_
                    exact J135
                  · have hic : i + 1 ≤ c := by rcases Nat.lt_or_ge i c with h9 | h9; exact h9; exact absurd c119 (by rw [ms_by, if_pos h9]; decide)
                    refine G.aload_n hX 0 rfl dX4_token_122 ?_
                    refine G.dup hX rfl dX4_token_123 ?_
                    refine G.get hX inc_X4_token_4 0 rfl rfl 12 (by decide) (by decide +kernel) rfl dX4_token_124 ?_
                    refine G.iconst hX (v := 1) (by decide) dX4_token_127 ?_
                    refine G.iadd hX dX4_token_128 ?_
                    refine G.ie (nI_add i 1) ?_
                    refine G.put hX (ws' := [(o 0, moO o ik be so (nI c) (nI (ms_fr tap c k)) (nI (i + 1)) vl wr), (o 7, arI E 120 tap)]) inc_X4_token_4 tyX4 tyX4_ok nmX4 0 rfl rfl 12 (by decide) (by decide +kernel) rfl (tyX4_ok 12 (by decide)) rfl rfl (Nat.le_of_ble_eq_true rfl) rfl rfl dX4_token_129 ?_
                    refine G.goto hX (tgt := 86) (by decide) dX4_token_132 ?_
                    refine G.we (ws' := [(o 0, moO o ik be so (nI c) (nI (ms_fr tap c k)) (nI ((i + 1))) vl wr), (o 7, arI E 120 tap)]) (by rfl) ?_
                    exact ih86 (i + 1) (by omega) hic (by rw [hl86_2]; exact ff_f (by omega) (by simp [ms_toP, c87, c105, c119])) (by omega)
              · refine G.aload_n hX 0 rfl dX4_token_90 ?_
                refine G.aload_n hX 0 rfl dX4_token_91 ?_
                refine G.get hX inc_X4_token_4 0 rfl rfl 12 (by decide) (by decide +kernel) rfl dX4_token_92 ?_
                refine G.vi hX (As := [.int (nI i)]) (st := []) (wr := []) (wf := [(o 0, moO o ik be so (nI c) (nI (ms_fr tap c k)) (nI i) vl wr), (o 7, arI E 120 tap)]) (q0 := 0) (ci := 4) rfl rfl (c_X4_byteAt _ E (k := i) (c := c) (o := o) (ik := ik) (be := be) (so := so) (fr := nI (ms_fr tap c k)) (tq := nI i) (vl := vl) (wr := wr) (tap := tap) (h1 := by omega) (h2 := by omega)) gX4_token_X4_byteAt cp_X4_byteAt (by decide) [0, 1] [] [0, 1] ⟨rfl, rfl, by decide, rfl⟩ rfl rfl (Nat.le_of_ble_eq_true rfl) dX4_token_95 ?_
                refine G.s0i hX (As := [.int (ms_by tap c i)]) (st := []) (c_X4_isLetter _ E (x := ms_by tap c i) ) gX4_token_X4_isLetter cp_X4_isLetter (by decide) rfl rfl (Nat.le_of_ble_eq_true rfl) dX4_token_98 ?_
                refine G.b_ne hX (tgt := 122) (by decide) dX4_token_101 (fun c101 => ?_) (fun c101 => ?_)
                · have hic : i + 1 ≤ c := by rcases Nat.lt_or_ge i c with h9 | h9; exact h9; exact absurd c101 (by rw [ms_by, if_pos h9]; decide)
                  refine G.aload_n hX 0 rfl dX4_token_122 ?_
                  refine G.dup hX rfl dX4_token_123 ?_
                  refine G.get hX inc_X4_token_4 0 rfl rfl 12 (by decide) (by decide +kernel) rfl dX4_token_124 ?_
                  refine G.iconst hX (v := 1) (by decide) dX4_token_127 ?_
                  refine G.iadd hX dX4_token_128 ?_
                  refine G.ie (nI_add i 1) ?_
                  refine G.put hX (ws' := [(o 0, moO o ik be so (nI c) (nI (ms_fr tap c k)) (nI (i + 1)) vl wr), (o 7, arI E 120 tap)]) inc_X4_token_4 tyX4 tyX4_ok nmX4 0 rfl rfl 12 (by decide) (by decide +kernel) rfl (tyX4_ok 12 (by decide)) rfl rfl (Nat.le_of_ble_eq_true rfl) rfl rfl dX4_token_129 ?_
                  refine G.goto hX (tgt := 86) (by decide) dX4_token_132 ?_
                  refine G.we (ws' := [(o 0, moO o ik be so (nI c) (nI (ms_fr tap c k)) (nI ((i + 1))) vl wr), (o 7, arI E 120 tap)]) (by rfl) ?_
                  exact ih86 (i + 1) (by omega) hic (by rw [hl86_2]; exact ff_f (by omega) (by simp [ms_toP, c87, c101])) (by omega)
                · refine G.iload_n hX 2 rfl dX4_token_104 ?_
                  refine G.b_eq hX (tgt := 135) (by decide) dX4_token_105 (fun c105 => ?_) (fun c105 => ?_)
                  · refine G.lvp (lv' := [(0, .ref (o 0))]) [0] rfl ?_
                    refine G.we (ws' := [(o 0, moO o ik be so (nI c) (nI (ms_fr tap c k)) (nI (ms_to tap c (ms_fr tap c k))) vl wr), (o 7, arI E 120 tap)]) (by rw [hl86_2, ff_t (by omega) (by simp [ms_toP, c87, c101, c105])]) ?_
                    exact J135
                  · refine G.aload_n hX 0 rfl dX4_token_108 ?_
                    refine G.aload_n hX 0 rfl dX4_token_109 ?_
                    refine G.get hX inc_X4_token_4 0 rfl rfl 12 (by decide) (by decide +kernel) rfl dX4_token_110 ?_
                    refine G.vi hX (As := [.int (nI i)]) (st := []) (wr := []) (wf := [(o 0, moO o ik be so (nI c) (nI (ms_fr tap c k)) (nI i) vl wr), (o 7, arI E 120 tap)]) (q0 := 0) (ci := 4) rfl rfl (c_X4_byteAt _ E (k := i) (c := c) (o := o) (ik := ik) (be := be) (so := so) (fr := nI (ms_fr tap c k)) (tq := nI i) (vl := vl) (wr := wr) (tap := tap) (h1 := by omega) (h2 := by omega)) gX4_token_X4_byteAt cp_X4_byteAt (by decide) [0, 1] [] [0, 1] ⟨rfl, rfl, by decide, rfl⟩ rfl rfl (Nat.le_of_ble_eq_true rfl) dX4_token_113 ?_
                    refine G.s0i hX (As := [.int (ms_by tap c i)]) (st := []) (c_X4_isDigit _ E (x := ms_by tap c i) ) gX4_token_X4_isDigit cp_X4_isDigit (by decide) rfl rfl (Nat.le_of_ble_eq_true rfl) dX4_token_116 ?_
                    refine G.b_eq hX (tgt := 135) (by decide) dX4_token_119 (fun c119 => ?_) (fun c119 => ?_)
                    · refine G.lvp (lv' := [(0, .ref (o 0))]) [0] rfl ?_
                      refine G.we (ws' := [(o 0, moO o ik be so (nI c) (nI (ms_fr tap c k)) (nI (ms_to tap c (ms_fr tap c k))) vl wr), (o 7, arI E 120 tap)]) (by rw [hl86_2, ff_t (by omega) (by simp [ms_toP, c87, c101, c105, c119])]) ?_
                      exact J135
                    · have hic : i + 1 ≤ c := by rcases Nat.lt_or_ge i c with h9 | h9; exact h9; exact absurd c119 (by rw [ms_by, if_pos h9]; decide)
                      refine G.aload_n hX 0 rfl dX4_token_122 ?_
                      refine G.dup hX rfl dX4_token_123 ?_
                      refine G.get hX inc_X4_token_4 0 rfl rfl 12 (by decide) (by decide +kernel) rfl dX4_token_124 ?_
                      refine G.iconst hX (v := 1) (by decide) dX4_token_127 ?_
                      refine G.iadd hX dX4_token_128 ?_
                      refine G.ie (nI_add i 1) ?_
                      refine G.put hX (ws' := [(o 0, moO o ik be so (nI c) (nI (ms_fr tap c k)) (nI (i + 1)) vl wr), (o 7, arI E 120 tap)]) inc_X4_token_4 tyX4 tyX4_ok nmX4 0 rfl rfl 12 (by decide) (by decide +kernel) rfl (tyX4_ok 12 (by decide)) rfl rfl (Nat.le_of_ble_eq_true rfl) rfl rfl dX4_token_129 ?_
                      refine G.goto hX (tgt := 86) (by decide) dX4_token_132 ?_
                      refine G.we (ws' := [(o 0, moO o ik be so (nI c) (nI (ms_fr tap c k)) (nI ((i + 1))) vl wr), (o 7, arI E 120 tap)]) (by rfl) ?_
                      exact ih86 (i + 1) (by omega) hic (by rw [hl86_2]; exact ff_f (by omega) (by simp [ms_toP, c87, c101, c105, c119])) (by omega)
          refine G.we (ws' := [(o 0, moO o ik be so (nI c) (nI (ms_fr tap c k)) (nI ((ms_to0 c (ms_fr tap c k)))) vl wr), (o 7, arI E 120 tap)]) (by rfl) ?_
          exact L86 (c + 1) (ms_to0 c (ms_fr tap c k)) (Nat.le_refl _) (to0_le hfc) rfl (by omega)
        refine G.aload_n hX 2 rfl dX4_token_58 ?_
        refine G.aload_n hX 2 rfl dX4_token_59 ?_
        refine G.get hX inc_X4_token_4 0 rfl rfl 11 (by decide) (by decide +kernel) rfl dX4_token_60 ?_
        refine G.aload_n hX 2 rfl dX4_token_63 ?_
        refine G.get hX inc_X4_token_4 0 rfl rfl 10 (by decide) (by decide +kernel) rfl dX4_token_64 ?_
        refine G.n_ge hX (a := ms_fr tap c k) (b := c) (tgt := 79) (by omega) (by omega) (by decide) dX4_token_67 (fun c67 => ?_) (fun c67 => ?_)
        · refine G.aload_n hX 2 rfl dX4_token_79 ?_
          refine G.get hX inc_X4_token_4 0 rfl rfl 11 (by decide) (by decide +kernel) rfl dX4_token_80 ?_
          refine G.lvp (lv' := [(0, .ref (o 0)), (1, .int (bI (inI (ms_by tap c (ms_fr tap c k)) 97 122))), (2, .int (bI (inI (ms_by tap c (ms_fr tap c k)) 48 57)))]) [2, 1, 0] rfl ?_
          refine G.ve (y := .int (nI (ms_to0 c (ms_fr tap c k)))) (by first | (rw [ms_to0, if_pos c67]; done) | (rw [ms_to0, if_neg (by omega)]; done)) ?_
          exact J83
        · refine G.aload_n hX 2 rfl dX4_token_70 ?_
          refine G.get hX inc_X4_token_4 0 rfl rfl 11 (by decide) (by decide +kernel) rfl dX4_token_71 ?_
          refine G.iconst hX (v := 1) (by decide) dX4_token_74 ?_
          refine G.iadd hX dX4_token_75 ?_
          refine G.ie (nI_add (ms_fr tap c k) 1) ?_
          refine G.goto hX (tgt := 83) (by decide) dX4_token_76 ?_
          refine G.lvp (lv' := [(0, .ref (o 0)), (1, .int (bI (inI (ms_by tap c (ms_fr tap c k)) 97 122))), (2, .int (bI (inI (ms_by tap c (ms_fr tap c k)) 48 57)))]) [2, 1, 0] rfl ?_
          refine G.ve (y := .int (nI (ms_to0 c (ms_fr tap c k)))) (by first | (rw [ms_to0, if_pos c67]; done) | (rw [ms_to0, if_neg (by omega)]; done)) ?_
          exact J83
      refine G.aload_n hX 0 rfl dX4_token_8 ?_
      refine G.aload_n hX 0 rfl dX4_token_9 ?_
      refine G.get hX inc_X4_token_4 0 rfl rfl 11 (by decide) (by decide +kernel) rfl dX4_token_10 ?_
      refine G.vi hX (As := [.int (nI j)]) (st := []) (wr := []) (wf := [(o 0, moO o ik be so (nI c) (nI j) (nI k) vl wr), (o 7, arI E 120 tap)]) (q0 := 0) (ci := 4) rfl rfl (c_X4_byteAt _ E (k := j) (c := c) (o := o) (ik := ik) (be := be) (so := so) (fr := nI j) (tq := nI k) (vl := vl) (wr := wr) (tap := tap) (h1 := by omega) (h2 := by omega)) gX4_token_X4_byteAt cp_X4_byteAt (by decide) [0, 1] [] [0, 1] ⟨rfl, rfl, by decide, rfl⟩ rfl rfl (Nat.le_of_ble_eq_true rfl) dX4_token_13 ?_
      refine G.bipush hX (v := 32) (by decide) dX4_token_16 ?_
      refine G.icmp_ne hX (tgt := 34) (by decide) dX4_token_18 (fun c18 => ?_) (fun c18 => ?_)
      · have hfc : ms_fr tap c k ≤ c := fr_le h1 h2
        refine G.we (ws' := [(o 0, moO o ik be so (nI c) (nI (ms_fr tap c k)) (nI k) vl wr), (o 7, arI E 120 tap)]) (by rw [hl8_2, ff_t (by omega) (by simp [ms_skP, c18])]) ?_
        exact J34
      · have hjc : j + 1 ≤ c := by rcases Nat.lt_or_ge j c with h9 | h9; exact h9; exact absurd c18 (by rw [ms_by, if_pos h9]; decide)
        refine G.aload_n hX 0 rfl dX4_token_21 ?_
        refine G.dup hX rfl dX4_token_22 ?_
        refine G.get hX inc_X4_token_4 0 rfl rfl 11 (by decide) (by decide +kernel) rfl dX4_token_23 ?_
        refine G.iconst hX (v := 1) (by decide) dX4_token_26 ?_
        refine G.iadd hX dX4_token_27 ?_
        refine G.ie (nI_add j 1) ?_
        refine G.put hX (ws' := [(o 0, moO o ik be so (nI c) (nI (j + 1)) (nI k) vl wr), (o 7, arI E 120 tap)]) inc_X4_token_4 tyX4 tyX4_ok nmX4 0 rfl rfl 11 (by decide) (by decide +kernel) rfl (tyX4_ok 11 (by decide)) rfl rfl (Nat.le_of_ble_eq_true rfl) rfl rfl dX4_token_28 ?_
        refine G.goto hX (tgt := 8) (by decide) dX4_token_31 ?_
        refine G.we (ws' := [(o 0, moO o ik be so (nI c) (nI ((j + 1))) (nI k) vl wr), (o 7, arI E 120 tap)]) (by rfl) ?_
        exact ih8 (j + 1) (by omega) hjc (by rw [hl8_2]; exact ff_f (by omega) (by simp [ms_skP, c18])) (by omega)
  exact L8 (c + 1) k (by omega) (by omega) rfl (by omega)
abbrev rmX4_must : Room := { frames := 3, cells := 0, slots := 0, locals := 67 }
theorem cp_X4_must : CP yX4_must RX4 wsX4_must 2 1 rmX4_must := ⟨⟨_, _, _, rfl⟩, rfl, rfl, by decide +kernel⟩
theorem inc_X4_must_4 : ∀ w ∈ u_ws RX4 TX4 19, w ∈ wsX4_must := by decide +kernel
set_option maxHeartbeats 4000000 in
set_option maxRecDepth 100000 in
theorem c_X4_must (l : Launch) (E : EV) (b : Bool) (q : TQ) (c : Nat) (o : Nat → Nat) (ik : Int32) (be : Int32) (so : Int32) (tap : Nat → Int32) (h1 : OKq c q) (h2 : c ≤ 120) : CV l yX4_must wsX4_must rmX4_must E [.ref (o 0), .int (bI b)] [(o 0, moO o ik be so (nI c) (nI q.1) (nI q.2.1) q.2.2.1 (bI q.2.2.2)), (o 7, arI E 120 tap)] [(o 0, moO o ik be so (nI c) (nI ((ms_must tap c b q).1)) (nI ((ms_must tap c b q).2.1)) ((ms_must tap c b q).2.2.1) (bI ((ms_must tap c b q).2.2.2))), (o 7, arI E 120 tap)] := by
  have hb0 : q.2.1 ≤ c := h1.2.1
  refine CV.of (own := RX4) (cc := cX4_must) (nL := 2) (rt := none) (by decide) rfl rfl (Nat.le_of_ble_eq_true rfl) (fun X hX hQ => ?_)
  show G E X 2 0 [(0, .ref (o 0)), (1, .int (bI b))] [] [(o 0, moO o ik be so (nI c) (nI q.1) (nI q.2.1) q.2.2.1 (bI q.2.2.2)), (o 7, arI E 120 tap)]
  refine G.aload_n hX 0 rfl dX4_must_0 ?_
  refine G.aload_n hX 0 rfl dX4_must_1 ?_
  have J17 : G E X 2 17 [(0, .ref (o 0))] [.int (bI (q.2.2.2 || !b)), .ref (o 0)] [(o 0, moO o ik be so (nI c) (nI q.1) (nI q.2.1) q.2.2.1 (bI q.2.2.2)), (o 7, arI E 120 tap)] := by
    refine G.put hX (ws' := [(o 0, moO o ik be so (nI c) (nI q.1) (nI q.2.1) q.2.2.1 (bI (q.2.2.2 || !b))), (o 7, arI E 120 tap)]) inc_X4_must_4 tyX4 tyX4_ok nmX4 0 rfl rfl 14 (by decide) (by decide +kernel) rfl (tyX4_ok 14 (by decide)) (bI_z _) (bI_f _) (Nat.le_of_ble_eq_true rfl) rfl rfl dX4_must_17 ?_
    refine G.aload_n hX 0 rfl dX4_must_20 ?_
    refine G.get hX inc_X4_must_4 0 rfl rfl 14 (by decide) (by decide +kernel) rfl dX4_must_21 ?_
    refine G.b_ne hX (tgt := 31) (by decide) dX4_must_24 (fun c24 => ?_) (fun c24 => ?_)
    · exact G.vret hX hQ dX4_must_31 (by simp only [ms_must, c24, ↓reduceIte, Bool.false_eq_true, Bool.true_eq_false])
    · refine G.aload_n hX 0 rfl dX4_must_27 ?_
      refine G.vv hX (As := []) (st := []) (wr := []) (wf := [(o 0, moO o ik be so (nI c) (nI (ms_fr tap c q.2.1)) (nI (ms_to tap c (ms_fr tap c q.2.1))) q.2.2.1 (bI (q.2.2.2 || !b))), (o 7, arI E 120 tap)]) (q0 := 0) (ci := 4) rfl rfl (c_X4_token _ E (c := c) (k := q.2.1) (o := o) (ik := ik) (be := be) (so := so) (fr := nI q.1) (vl := q.2.2.1) (wr := bI (q.2.2.2 || !b)) (tap := tap) (h1 := by omega) (h2 := by omega)) gX4_must_X4_token cp_X4_token (by decide) [0, 1] [] [0, 1] ⟨rfl, rfl, by decide, rfl⟩ rfl rfl (Nat.le_of_ble_eq_true rfl) dX4_must_28 ?_
      exact G.vret hX hQ dX4_must_31 (by simp only [ms_must, c24, ↓reduceIte, Bool.false_eq_true, Bool.true_eq_false])
  refine G.get hX inc_X4_must_4 0 rfl rfl 14 (by decide) (by decide +kernel) rfl dX4_must_2 ?_
  refine G.b_ne hX (tgt := 12) (by decide) dX4_must_5 (fun c5 => ?_) (fun c5 => ?_)
  · refine G.iconst hX (v := 1) (by decide) dX4_must_12 ?_
    refine G.goto hX (tgt := 17) (by decide) dX4_must_13 ?_
    refine G.lvp (lv' := [(0, .ref (o 0))]) [0] rfl ?_
    refine G.ve (y := .int (bI (q.2.2.2 || !b))) (by first | rfl | (simp only [bI, c5, ↓reduceIte, Bool.not_true, Bool.not_false, Bool.and_true, Bool.true_and, Bool.and_false, Bool.false_and, Bool.or_true, Bool.true_or, Bool.or_false, Bool.false_or, decide_true, decide_false, not_true_eq_false, not_false_eq_true, Bool.false_eq_true, Bool.true_eq_false]; done) | (simp only [bI, c5, ↓reduceIte, Bool.not_true, Bool.not_false, Bool.and_true, Bool.true_and, Bool.and_false, Bool.false_and, Bool.or_true, Bool.true_or, Bool.or_false, Bool.false_or, decide_true, decide_false, not_true_eq_false, not_false_eq_true, Bool.false_eq_true, Bool.true_eq_false]; rfl) | (simp [bI, c5]; done)) ?_
    exact J17
  · refine G.iload_n hX 1 rfl dX4_must_8 ?_
    refine G.b_ne hX (tgt := 16) (by decide) dX4_must_9 (fun c9 => ?_) (fun c9 => ?_)
    · refine G.iconst hX (v := 0) (by decide) dX4_must_16 ?_
      refine G.lvp (lv' := [(0, .ref (o 0))]) [0] rfl ?_
      refine G.ve (y := .int (bI (q.2.2.2 || !b))) (by first | rfl | (simp only [bI, c5, c9, ↓reduceIte, Bool.not_true, Bool.not_false, Bool.and_true, Bool.true_and, Bool.and_false, Bool.false_and, Bool.or_true, Bool.true_or, Bool.or_false, Bool.false_or, decide_true, decide_false, not_true_eq_false, not_false_eq_true, Bool.false_eq_true, Bool.true_eq_false]; done) | (simp only [bI, c5, c9, ↓reduceIte, Bool.not_true, Bool.not_false, Bool.and_true, Bool.true_and, Bool.and_false, Bool.false_and, Bool.or_true, Bool.true_or, Bool.or_false, Bool.false_or, decide_true, decide_false, not_true_eq_false, not_false_eq_true, Bool.false_eq_true, Bool.true_eq_false]; rfl) | (simp [bI, c5, c9]; done)) ?_
      exact J17
    · refine G.iconst hX (v := 1) (by decide) dX4_must_12 ?_
      refine G.goto hX (tgt := 17) (by decide) dX4_must_13 ?_
      refine G.lvp (lv' := [(0, .ref (o 0))]) [0] rfl ?_
      refine G.ve (y := .int (bI (q.2.2.2 || !b))) (by first | rfl | (simp only [bI, c5, c9, ↓reduceIte, Bool.not_true, Bool.not_false, Bool.and_true, Bool.true_and, Bool.and_false, Bool.false_and, Bool.or_true, Bool.true_or, Bool.or_false, Bool.false_or, decide_true, decide_false, not_true_eq_false, not_false_eq_true, Bool.false_eq_true, Bool.true_eq_false]; done) | (simp only [bI, c5, c9, ↓reduceIte, Bool.not_true, Bool.not_false, Bool.and_true, Bool.true_and, Bool.and_false, Bool.false_and, Bool.or_true, Bool.true_or, Bool.or_false, Bool.false_or, decide_true, decide_false, not_true_eq_false, not_false_eq_true, Bool.false_eq_true, Bool.true_eq_false]; rfl) | (simp [bI, c5, c9]; done)) ?_
      exact J17
abbrev rmX4_word : Room := { frames := 2, cells := 0, slots := 0, locals := 45 }
theorem cp_X4_word : CP yX4_word RX4 wsX4_word 4 0 rmX4_word := ⟨⟨_, _, _, rfl⟩, rfl, rfl, by decide +kernel⟩
theorem inc_X4_word_4 : ∀ w ∈ u_ws RX4 TX4 19, w ∈ wsX4_word := by decide +kernel
set_option maxHeartbeats 4000000 in
set_option maxRecDepth 100000 in
theorem c_X4_word (l : Launch) (E : EV) (q : TQ) (c : Nat) (o : Nat → Nat) (ik : Int32) (be : Int32) (so : Int32) (tap : Nat → Int32) (h1 : OKq c q) (h2 : c ≤ 120) : CL l yX4_word wsX4_word rmX4_word E [.ref (o 0)] [(o 0, moO o ik be so (nI c) (nI q.1) (nI q.2.1) q.2.2.1 (bI q.2.2.2)), (o 7, arI E 120 tap)] [(o 0, moO o ik be so (nI c) (nI q.1) (nI q.2.1) q.2.2.1 (bI q.2.2.2)), (o 7, arI E 120 tap)] (ms_wd tap c q) := by
  obtain ⟨hb0, hb1, -⟩ := id h1
  refine CL.of (own := RX4) (cc := cX4_word) (nL := 4) (rt := (some .long)) (by decide) rfl rfl (Nat.le_of_ble_eq_true rfl) (fun X hX hQ => ?_)
  show G E X 4 0 [(0, .ref (o 0))] [] [(o 0, moO o ik be so (nI c) (nI q.1) (nI q.2.1) q.2.2.1 (bI q.2.2.2)), (o 7, arI E 120 tap)]
  refine G.lconst hX (v := 0) (by decide) dX4_word_0 ?_
  refine G.lstore_n hX (lv' := [(1, .long 0), (0, .ref (o 0))]) rfl (by decide) rfl dX4_word_1 ?_
  refine G.aload_n hX 1 rfl dX4_word_2 ?_
  refine G.get hX inc_X4_word_4 0 rfl rfl 11 (by decide) (by decide +kernel) rfl dX4_word_3 ?_
  refine G.istore_n hX (lv' := [(3, .int (nI q.1)), (1, .long 0), (0, .ref (o 0))]) rfl (by decide) rfl dX4_word_6 ?_
  have L7 : ∀ (n : Nat) (i : Nat), i ≤ q.2.1 - q.1 → q.2.1 - q.1 + 1 ≤ i + n → G E X 4 7 [(0, .ref (o 0)), (1, .long (it (ms_wS tap q.1) i 0)), (3, .int (nI (q.1 + i)))] [] [(o 0, moO o ik be so (nI c) (nI q.1) (nI q.2.1) q.2.2.1 (bI q.2.2.2)), (o 7, arI E 120 tap)] := by
    intro n
    induction n with
    | zero => intro i hl7_0 hl7_1; exact absurd hl7_1 (by omega)
    | succ n ih7 =>
      intro i hl7_0 hl7_1
      have J50 : G E X 4 50 [(0, .ref (o 0)), (1, .long (ms_wv tap q.1 q.2.1))] [] [(o 0, moO o ik be so (nI c) (nI q.1) (nI q.2.1) q.2.2.1 (bI q.2.2.2)), (o 7, arI E 120 tap)] := by
        refine G.aload_n hX 0 rfl dX4_word_50 ?_
        refine G.get hX inc_X4_word_4 0 rfl rfl 14 (by decide) (by decide +kernel) rfl dX4_word_51 ?_
        refine G.b_ne hX (tgt := 71) (by decide) dX4_word_54 (fun c54 => ?_) (fun c54 => ?_)
        · refine G.lconst hX (v := 0) (by decide) dX4_word_71 ?_
          refine G.goto hX (tgt := 76) (by decide) dX4_word_72 ?_
          exact G.lret hX hQ dX4_word_76 (by first | rfl | (simp only [ms_wd, c54, ↓reduceIte, Bool.not_true, Bool.not_false, Bool.and_true, Bool.true_and, Bool.and_false, Bool.false_and, Bool.or_true, Bool.true_or, Bool.or_false, Bool.false_or, decide_true, decide_false, not_true_eq_false, not_false_eq_true, Bool.false_eq_true, Bool.true_eq_false]; done) | (simp only [ms_wd, c54, ↓reduceIte, Bool.not_true, Bool.not_false, Bool.and_true, Bool.true_and, Bool.and_false, Bool.false_and, Bool.or_true, Bool.true_or, Bool.or_false, Bool.false_or, decide_true, decide_false, not_true_eq_false, not_false_eq_true, Bool.false_eq_true, Bool.true_eq_false]; rfl) | (simp [ms_wd, c54]; done)) (by rfl)
        · refine G.aload_n hX 0 rfl dX4_word_57 ?_
          refine G.aload_n hX 0 rfl dX4_word_58 ?_
          refine G.get hX inc_X4_word_4 0 rfl rfl 11 (by decide) (by decide +kernel) rfl dX4_word_59 ?_
          refine G.vi hX (As := [.int (nI q.1)]) (st := []) (wr := []) (wf := [(o 0, moO o ik be so (nI c) (nI q.1) (nI q.2.1) q.2.2.1 (bI q.2.2.2)), (o 7, arI E 120 tap)]) (q0 := 0) (ci := 4) rfl rfl (c_X4_byteAt _ E (k := q.1) (c := c) (o := o) (ik := ik) (be := be) (so := so) (fr := nI q.1) (tq := nI q.2.1) (vl := q.2.2.1) (wr := bI q.2.2.2) (tap := tap) (h1 := by omega) (h2 := by omega)) gX4_word_X4_byteAt cp_X4_byteAt (by decide) [0, 1] [] [0, 1] ⟨rfl, rfl, by decide, rfl⟩ rfl rfl (Nat.le_of_ble_eq_true rfl) dX4_word_62 ?_
          refine G.s0i hX (As := [.int (ms_by tap c q.1)]) (st := []) (c_X4_isLetter _ E (x := ms_by tap c q.1) ) gX4_word_X4_isLetter cp_X4_isLetter (by decide) rfl rfl (Nat.le_of_ble_eq_true rfl) dX4_word_65 ?_
          refine G.b_ne hX (tgt := 75) (by decide) dX4_word_68 (fun c68 => ?_) (fun c68 => ?_)
          · refine G.lload_n hX 1 rfl dX4_word_75 ?_
            exact G.lret hX hQ dX4_word_76 (by first | rfl | (simp only [ms_wd, c54, c68, ↓reduceIte, Bool.not_true, Bool.not_false, Bool.and_true, Bool.true_and, Bool.and_false, Bool.false_and, Bool.or_true, Bool.true_or, Bool.or_false, Bool.false_or, decide_true, decide_false, not_true_eq_false, not_false_eq_true, Bool.false_eq_true, Bool.true_eq_false]; done) | (simp only [ms_wd, c54, c68, ↓reduceIte, Bool.not_true, Bool.not_false, Bool.and_true, Bool.true_and, Bool.and_false, Bool.false_and, Bool.or_true, Bool.true_or, Bool.or_false, Bool.false_or, decide_true, decide_false, not_true_eq_false, not_false_eq_true, Bool.false_eq_true, Bool.true_eq_false]; rfl) | (simp [ms_wd, c54, c68]; done)) (by rfl)
          · refine G.lconst hX (v := 0) (by decide) dX4_word_71 ?_
            refine G.goto hX (tgt := 76) (by decide) dX4_word_72 ?_
            exact G.lret hX hQ dX4_word_76 (by first | rfl | (simp only [ms_wd, c54, c68, ↓reduceIte, Bool.not_true, Bool.not_false, Bool.and_true, Bool.true_and, Bool.and_false, Bool.false_and, Bool.or_true, Bool.true_or, Bool.or_false, Bool.false_or, decide_true, decide_false, not_true_eq_false, not_false_eq_true, Bool.false_eq_true, Bool.true_eq_false]; done) | (simp only [ms_wd, c54, c68, ↓reduceIte, Bool.not_true, Bool.not_false, Bool.and_true, Bool.true_and, Bool.and_false, Bool.false_and, Bool.or_true, Bool.true_or, Bool.or_false, Bool.false_or, decide_true, decide_false, not_true_eq_false, not_false_eq_true, Bool.false_eq_true, Bool.true_eq_false]; rfl) | (simp [ms_wd, c54, c68]; done)) (by rfl)
      refine G.iload_n hX 2 rfl dX4_word_7 ?_
      refine G.aload_n hX 0 rfl dX4_word_8 ?_
      refine G.get hX inc_X4_word_4 0 rfl rfl 12 (by decide) (by decide +kernel) rfl dX4_word_9 ?_
      refine G.n_ge hX (a := q.1 + i) (b := q.2.1) (tgt := 50) (by omega) (by omega) (by decide) dX4_word_12 (fun c12 => ?_) (fun c12 => ?_)
      · refine G.lvp (lv' := [(0, .ref (o 0)), (1, .long (it (ms_wS tap q.1) i 0))]) [0, 1] rfl ?_
        refine G.lve (lv' := [(0, .ref (o 0)), (1, .long (ms_wv tap q.1 q.2.1))]) (by have e9 : i = q.2.1 - q.1 := (by omega); rw [e9]; rfl) ?_
        exact J50
      · have J43 : G E X 4 43 [(0, .ref (o 0)), (3, .int (nI (q.1 + i)))] [.long (it (ms_wS tap q.1) (i + 1) 0)] [(o 0, moO o ik be so (nI c) (nI q.1) (nI q.2.1) q.2.2.1 (bI q.2.2.2)), (o 7, arI E 120 tap)] := by
          refine G.lstore_n hX (lv' := [(1, .long (it (ms_wS tap q.1) (i + 1) 0)), (0, .ref (o 0)), (3, .int (nI (q.1 + i)))]) rfl (by decide) rfl dX4_word_43 ?_
          refine G.iinc hX (n := 1) (lv' := [(3, .int (nI ((q.1 + i) + 1))), (1, .long (it (ms_wS tap q.1) (i + 1) 0)), (0, .ref (o 0))]) 2 rfl (inc_nI (q.1 + i) 1 rfl) (by decide) rfl dX4_word_44 ?_
          refine G.goto hX (tgt := 7) (by decide) dX4_word_47 ?_
          refine G.lvp (lv' := [(0, .ref (o 0)), (1, .long (it (ms_wS tap q.1) (i + 1) 0)), (3, .int (nI ((q.1 + i) + 1)))]) [2, 1, 0] rfl ?_
          refine G.lve (lv' := [(0, .ref (o 0)), (1, .long (it (ms_wS tap q.1) (i + 1) 0)), (3, .int (nI (q.1 + (i + 1))))]) (by rfl) ?_
          exact ih7 (i + 1) (by omega) (by omega)
        refine G.lload_n hX 1 rfl dX4_word_15 ?_
        refine G.ldc2 hX (v := 36028797018963967) (by decide +kernel) dX4_word_16 ?_
        refine G.lcmp hX dX4_word_19 ?_
        refine G.c_le hX (tgt := 27) (by decide) dX4_word_20 (fun c20 => ?_) (fun c20 => ?_)
        · refine G.ldc2 hX (v := 32) (by decide +kernel) dX4_word_27 ?_
          refine G.lload_n hX 1 rfl dX4_word_30 ?_
          refine G.lmul hX dX4_word_31 ?_
          refine G.aload_n hX 0 rfl dX4_word_32 ?_
          refine G.get hX inc_X4_word_4 0 rfl rfl 9 (by decide) (by decide +kernel) rfl dX4_word_33 ?_
          refine G.iload_n hX 2 rfl dX4_word_36 ?_
          refine G.iald hX (j := q.1 + i) 1 rfl (by omega) (by omega) dX4_word_37 ?_
          refine G.bipush hX (v := 96) (by decide) dX4_word_38 ?_
          refine G.isub hX dX4_word_40 ?_
          refine G.i2l hX dX4_word_41 ?_
          refine G.ladd hX dX4_word_42 ?_
          refine G.lvp (lv' := [(0, .ref (o 0)), (3, .int (nI (q.1 + i)))]) [0, 2] rfl ?_
          refine G.ve (y := .long (it (ms_wS tap q.1) (i + 1) 0)) (by first | rfl | (simp only [it_s, ms_wS, c12, c20, ↓reduceIte, Bool.not_true, Bool.not_false, Bool.and_true, Bool.true_and, Bool.and_false, Bool.false_and, Bool.or_true, Bool.true_or, Bool.or_false, Bool.false_or, decide_true, decide_false, not_true_eq_false, not_false_eq_true, Bool.false_eq_true, Bool.true_eq_false]; done) | (simp only [it_s, ms_wS, c12, c20, ↓reduceIte, Bool.not_true, Bool.not_false, Bool.and_true, Bool.true_and, Bool.and_false, Bool.false_and, Bool.or_true, Bool.true_or, Bool.or_false, Bool.false_or, decide_true, decide_false, not_true_eq_false, not_false_eq_true, Bool.false_eq_true, Bool.true_eq_false]; rfl) | (simp [it_s, ms_wS, c12, c20]; done)) ?_
          exact J43
        · refine G.lload_n hX 1 rfl dX4_word_23 ?_
          refine G.goto hX (tgt := 43) (by decide) dX4_word_24 ?_
          refine G.lvp (lv' := [(0, .ref (o 0)), (3, .int (nI (q.1 + i)))]) [0, 2] rfl ?_
          refine G.ve (y := .long (it (ms_wS tap q.1) (i + 1) 0)) (by first | rfl | (simp only [it_s, ms_wS, c12, c20, ↓reduceIte, Bool.not_true, Bool.not_false, Bool.and_true, Bool.true_and, Bool.and_false, Bool.false_and, Bool.or_true, Bool.true_or, Bool.or_false, Bool.false_or, decide_true, decide_false, not_true_eq_false, not_false_eq_true, Bool.false_eq_true, Bool.true_eq_false]; done) | (simp only [it_s, ms_wS, c12, c20, ↓reduceIte, Bool.not_true, Bool.not_false, Bool.and_true, Bool.true_and, Bool.and_false, Bool.false_and, Bool.or_true, Bool.true_or, Bool.or_false, Bool.false_or, decide_true, decide_false, not_true_eq_false, not_false_eq_true, Bool.false_eq_true, Bool.true_eq_false]; rfl) | (simp [it_s, ms_wS, c12, c20]; done)) ?_
          exact J43
  refine G.lvp (lv' := [(0, .ref (o 0)), (1, .long 0), (3, .int (nI q.1))]) [2, 1, 0] rfl ?_
  refine G.lve (lv' := [(0, .ref (o 0)), (1, .long (it (ms_wS tap q.1) 0 0)), (3, .int (nI q.1))]) (by rfl) ?_
  exact L7 (q.2.1 - q.1 + 1) 0 (by omega) (by omega)
abbrev rmX4_number : Room := { frames := 4, cells := 0, slots := 0, locals := 88 }
theorem cp_X4_number : CP yX4_number RX4 wsX4_number 6 2 rmX4_number := ⟨⟨_, _, _, rfl⟩, rfl, rfl, by decide +kernel⟩
theorem inc_X4_number_4 : ∀ w ∈ u_ws RX4 TX4 19, w ∈ wsX4_number := by decide +kernel
set_option maxHeartbeats 4000000 in
set_option maxRecDepth 100000 in
theorem c_X4_number (l : Launch) (E : EV) (lo : Nat) (hi : Nat) (q : TQ) (c : Nat) (o : Nat → Nat) (ik : Int32) (be : Int32) (so : Int32) (tap : Nat → Int32) (h1 : OKq c q) (h2 : c ≤ 120) (h3 : lo < 2000) (h4 : hi < 2000) : CV l yX4_number wsX4_number rmX4_number E [.ref (o 0), .int (nI lo), .int (nI hi)] [(o 0, moO o ik be so (nI c) (nI q.1) (nI q.2.1) q.2.2.1 (bI q.2.2.2)), (o 7, arI E 120 tap)] [(o 0, moO o ik be so (nI c) (nI ((ms_num tap c lo hi q).1)) (nI ((ms_num tap c lo hi q).2.1)) ((ms_num tap c lo hi q).2.2.1) (bI ((ms_num tap c lo hi q).2.2.2))), (o 7, arI E 120 tap)] := by
  obtain ⟨hb0, hb1, hb2⟩ := id h1
  refine CV.of (own := RX4) (cc := cX4_number) (nL := 6) (rt := none) (by decide) rfl rfl (Nat.le_of_ble_eq_true rfl) (fun X hX hQ => ?_)
  show G E X 6 0 [(0, .ref (o 0)), (1, .int (nI lo)), (2, .int (nI hi))] [] [(o 0, moO o ik be so (nI c) (nI q.1) (nI q.2.1) q.2.2.1 (bI q.2.2.2)), (o 7, arI E 120 tap)]
  refine G.aload_n hX 0 rfl dX4_number_0 ?_
  refine G.get hX inc_X4_number_4 0 rfl rfl 14 (by decide) (by decide +kernel) rfl dX4_number_1 ?_
  refine G.b_eq hX (tgt := 8) (by decide) dX4_number_4 (fun c4 => ?_) (fun c4 => ?_)
  · refine G.aload_n hX 0 rfl dX4_number_8 ?_
    refine G.aload_n hX 0 rfl dX4_number_9 ?_
    refine G.get hX inc_X4_number_4 0 rfl rfl 11 (by decide) (by decide +kernel) rfl dX4_number_10 ?_
    refine G.vi hX (As := [.int (nI q.1)]) (st := []) (wr := []) (wf := [(o 0, moO o ik be so (nI c) (nI q.1) (nI q.2.1) q.2.2.1 (bI q.2.2.2)), (o 7, arI E 120 tap)]) (q0 := 0) (ci := 4) rfl rfl (c_X4_byteAt _ E (k := q.1) (c := c) (o := o) (ik := ik) (be := be) (so := so) (fr := nI q.1) (tq := nI q.2.1) (vl := q.2.2.1) (wr := bI q.2.2.2) (tap := tap) (h1 := by omega) (h2 := by omega)) gX4_number_X4_byteAt cp_X4_byteAt (by decide) [0, 1] [] [0, 1] ⟨rfl, rfl, by decide, rfl⟩ rfl rfl (Nat.le_of_ble_eq_true rfl) dX4_number_13 ?_
    refine G.s0i hX (As := [.int (ms_by tap c q.1)]) (st := []) (c_X4_isDigit _ E (x := ms_by tap c q.1) ) gX4_number_X4_isDigit cp_X4_isDigit (by decide) rfl rfl (Nat.le_of_ble_eq_true rfl) dX4_number_16 ?_
    refine G.istore_n hX (lv' := [(3, .int (bI (inI (ms_by tap c q.1) 48 57))), (0, .ref (o 0)), (1, .int (nI lo)), (2, .int (nI hi))]) rfl (by decide) rfl dX4_number_19 ?_
    refine G.iconst hX (v := 0) (by decide) dX4_number_20 ?_
    refine G.istore hX (lv' := [(4, .int 0), (3, .int (bI (inI (ms_by tap c q.1) 48 57))), (0, .ref (o 0)), (1, .int (nI lo)), (2, .int (nI hi))]) (by decide) rfl dX4_number_21 ?_
    refine G.aload_n hX 2 rfl dX4_number_23 ?_
    refine G.get hX inc_X4_number_4 0 rfl rfl 11 (by decide) (by decide +kernel) rfl dX4_number_24 ?_
    refine G.istore hX (lv' := [(5, .int (nI q.1)), (4, .int 0), (3, .int (bI (inI (ms_by tap c q.1) 48 57))), (0, .ref (o 0)), (1, .int (nI lo)), (2, .int (nI hi))]) (by decide) rfl dX4_number_27 ?_
    have L29 : ∀ (n : Nat) (i : Nat), i ≤ q.2.1 - q.1 → (inI (ms_by tap c q.1) 48 57 = false → i = 0) → q.2.1 - q.1 + 1 ≤ i + n → G E X 6 29 [(0, .ref (o 0)), (1, .int (nI lo)), (2, .int (nI hi)), (3, .int (bI (inI (ms_by tap c q.1) 48 57))), (4, .int (it (ms_nS tap q.1) i 0)), (5, .int (nI (q.1 + i)))] [] [(o 0, moO o ik be so (nI c) (nI q.1) (nI q.2.1) q.2.2.1 (bI q.2.2.2)), (o 7, arI E 120 tap)] := by
      intro n
      induction n with
      | zero => intro i hl29_0 hl29_1 hl29_2; exact absurd hl29_2 (by omega)
      | succ n ih29 =>
        intro i hl29_0 hl29_1 hl29_2
        have J79 : G E X 6 79 [(0, .ref (o 0)), (1, .int (nI lo)), (2, .int (nI hi)), (3, .int (bI (inI (ms_by tap c q.1) 48 57))), (4, .int (ms_nv tap c q.1 q.2.1))] [] [(o 0, moO o ik be so (nI c) (nI q.1) (nI q.2.1) q.2.2.1 (bI q.2.2.2)), (o 7, arI E 120 tap)] := by
          refine G.aload_n hX 0 rfl dX4_number_79 ?_
          refine G.iload hX 4 rfl dX4_number_80 ?_
          refine G.put hX (ws' := [(o 0, moO o ik be so (nI c) (nI q.1) (nI q.2.1) (ms_nv tap c q.1 q.2.1) (bI q.2.2.2)), (o 7, arI E 120 tap)]) inc_X4_number_4 tyX4 tyX4_ok nmX4 0 rfl rfl 13 (by decide) (by decide +kernel) rfl (tyX4_ok 13 (by decide)) rfl rfl (Nat.le_of_ble_eq_true rfl) rfl rfl dX4_number_82 ?_
          refine G.we (ws' := [(o 0, moO o ik be so (nI c) (nI ((q.1, q.2.1, ms_nv tap c q.1 q.2.1, false).1)) (nI ((q.1, q.2.1, ms_nv tap c q.1 q.2.1, false).2.1)) ((q.1, q.2.1, ms_nv tap c q.1 q.2.1, false).2.2.1) (bI ((q.1, q.2.1, ms_nv tap c q.1 q.2.1, false).2.2.2))), (o 7, arI E 120 tap)]) (by rw [c4]) ?_
          refine G.aload_n hX 0 rfl dX4_number_85 ?_
          have J108 : G E X 6 108 [(0, .ref (o 0))] [.int (bI (ms_nok tap c lo hi q)), .ref (o 0)] [(o 0, moO o ik be so (nI c) (nI ((q.1, q.2.1, ms_nv tap c q.1 q.2.1, false).1)) (nI ((q.1, q.2.1, ms_nv tap c q.1 q.2.1, false).2.1)) ((q.1, q.2.1, ms_nv tap c q.1 q.2.1, false).2.2.1) (bI ((q.1, q.2.1, ms_nv tap c q.1 q.2.1, false).2.2.2))), (o 7, arI E 120 tap)] := by
            refine G.vv hX (As := [.int (bI (ms_nok tap c lo hi q))]) (st := []) (wr := []) (wf := [(o 0, moO o ik be so (nI c) (nI ((ms_must tap c (ms_nok tap c lo hi q) ((q.1, q.2.1, ms_nv tap c q.1 q.2.1, false))).1)) (nI ((ms_must tap c (ms_nok tap c lo hi q) ((q.1, q.2.1, ms_nv tap c q.1 q.2.1, false))).2.1)) ((ms_must tap c (ms_nok tap c lo hi q) ((q.1, q.2.1, ms_nv tap c q.1 q.2.1, false))).2.2.1) (bI ((ms_must tap c (ms_nok tap c lo hi q) ((q.1, q.2.1, ms_nv tap c q.1 q.2.1, false))).2.2.2))), (o 7, arI E 120 tap)]) (q0 := 0) (ci := 4) rfl rfl (c_X4_must _ E (b := ms_nok tap c lo hi q) (q := (q.1, q.2.1, ms_nv tap c q.1 q.2.1, false)) (c := c) (o := o) (ik := ik) (be := be) (so := so) (tap := tap) (h1 := (show OKq c (q.1, q.2.1, ms_nv tap c q.1 q.2.1, false) from h1)) (h2 := by omega)) gX4_number_X4_must cp_X4_must (by decide) [0, 1] [] [0, 1] ⟨rfl, rfl, by decide, rfl⟩ rfl rfl (Nat.le_of_ble_eq_true rfl) dX4_number_108 ?_
            exact G.vret hX hQ dX4_number_111 (by simp only [ms_num, c4, ↓reduceIte, Bool.false_eq_true])
          refine G.iload_n hX 3 rfl dX4_number_86 ?_
          refine G.b_eq hX (tgt := 107) (by decide) dX4_number_87 (fun c87 => ?_) (fun c87 => ?_)
          · refine G.iconst hX (v := 0) (by decide) dX4_number_107 ?_
            refine G.lvp (lv' := [(0, .ref (o 0))]) [0] rfl ?_
            refine G.ve (y := .int (bI (ms_nok tap c lo hi q))) (by first | rfl | (simp only [bI, ms_nok, c4, c87, ↓reduceIte, Bool.not_true, Bool.not_false, Bool.and_true, Bool.true_and, Bool.and_false, Bool.false_and, Bool.or_true, Bool.true_or, Bool.or_false, Bool.false_or, decide_true, decide_false, not_true_eq_false, not_false_eq_true, Bool.false_eq_true, Bool.true_eq_false]; done) | (simp only [bI, ms_nok, c4, c87, ↓reduceIte, Bool.not_true, Bool.not_false, Bool.and_true, Bool.true_and, Bool.and_false, Bool.false_and, Bool.or_true, Bool.true_or, Bool.or_false, Bool.false_or, decide_true, decide_false, not_true_eq_false, not_false_eq_true, Bool.false_eq_true, Bool.true_eq_false]; rfl) | (simp [bI, ms_nok, c4, c87]; done)) ?_
            exact J108
          · refine G.iload hX 4 rfl dX4_number_90 ?_
            refine G.i2l hX dX4_number_92 ?_
            refine G.iload_n hX 1 rfl dX4_number_93 ?_
            refine G.i2l hX dX4_number_94 ?_
            refine G.le (y := lN lo) (nI_l (by omega)) ?_
            refine G.iload_n hX 2 rfl dX4_number_95 ?_
            refine G.i2l hX dX4_number_96 ?_
            refine G.le (y := lN hi) (nI_l (by omega)) ?_
            refine G.s0i hX (As := [.long ((ms_nv tap c q.1 q.2.1).toInt64), .long (lN lo), .long (lN hi)]) (st := [.ref (o 0)]) (c_X4_in _ E (v := (ms_nv tap c q.1 q.2.1).toInt64) (lo := lN lo) (hi := lN hi) ) gX4_number_X4_in cp_X4_in (by decide) rfl rfl (Nat.le_of_ble_eq_true rfl) dX4_number_97 ?_
            refine G.ie (y := bI (inI ((ms_nv tap c q.1 q.2.1)) (lN lo) (lN hi))) rfl ?_
            refine G.b_eq hX (tgt := 107) (by decide) dX4_number_100 (fun c100 => ?_) (fun c100 => ?_)
            · refine G.iconst hX (v := 0) (by decide) dX4_number_107 ?_
              refine G.lvp (lv' := [(0, .ref (o 0))]) [0] rfl ?_
              refine G.ve (y := .int (bI (ms_nok tap c lo hi q))) (by first | rfl | (simp only [bI, ms_nok, c4, c87, c100, ↓reduceIte, Bool.not_true, Bool.not_false, Bool.and_true, Bool.true_and, Bool.and_false, Bool.false_and, Bool.or_true, Bool.true_or, Bool.or_false, Bool.false_or, decide_true, decide_false, not_true_eq_false, not_false_eq_true, Bool.false_eq_true, Bool.true_eq_false]; done) | (simp only [bI, ms_nok, c4, c87, c100, ↓reduceIte, Bool.not_true, Bool.not_false, Bool.and_true, Bool.true_and, Bool.and_false, Bool.false_and, Bool.or_true, Bool.true_or, Bool.or_false, Bool.false_or, decide_true, decide_false, not_true_eq_false, not_false_eq_true, Bool.false_eq_true, Bool.true_eq_false]; rfl) | (simp [bI, ms_nok, c4, c87, c100]; done)) ?_
              exact J108
            · refine G.iconst hX (v := 1) (by decide) dX4_number_103 ?_
              refine G.goto hX (tgt := 108) (by decide) dX4_number_104 ?_
              refine G.lvp (lv' := [(0, .ref (o 0))]) [0] rfl ?_
              refine G.ve (y := .int (bI (ms_nok tap c lo hi q))) (by first | rfl | (simp only [bI, ms_nok, c4, c87, c100, ↓reduceIte, Bool.not_true, Bool.not_false, Bool.and_true, Bool.true_and, Bool.and_false, Bool.false_and, Bool.or_true, Bool.true_or, Bool.or_false, Bool.false_or, decide_true, decide_false, not_true_eq_false, not_false_eq_true, Bool.false_eq_true, Bool.true_eq_false]; done) | (simp only [bI, ms_nok, c4, c87, c100, ↓reduceIte, Bool.not_true, Bool.not_false, Bool.and_true, Bool.true_and, Bool.and_false, Bool.false_and, Bool.or_true, Bool.true_or, Bool.or_false, Bool.false_or, decide_true, decide_false, not_true_eq_false, not_false_eq_true, Bool.false_eq_true, Bool.true_eq_false]; rfl) | (simp [bI, ms_nok, c4, c87, c100]; done)) ?_
              exact J108
        refine G.iload hX 5 rfl dX4_number_29 ?_
        refine G.aload_n hX 0 rfl dX4_number_31 ?_
        refine G.get hX inc_X4_number_4 0 rfl rfl 12 (by decide) (by decide +kernel) rfl dX4_number_32 ?_
        refine G.n_ge hX (a := q.1 + i) (b := q.2.1) (tgt := 79) (by omega) (by omega) (by decide) dX4_number_35 (fun c35 => ?_) (fun c35 => ?_)
        · refine G.lvp (lv' := [(0, .ref (o 0)), (1, .int (nI lo)), (2, .int (nI hi)), (3, .int (bI (inI (ms_by tap c q.1) 48 57))), (4, .int (it (ms_nS tap q.1) i 0))]) [0, 1, 2, 3, 4] rfl ?_
          refine G.lve (lv' := [(0, .ref (o 0)), (1, .int (nI lo)), (2, .int (nI hi)), (3, .int (bI (inI (ms_by tap c q.1) 48 57))), (4, .int (ms_nv tap c q.1 q.2.1))]) (by first | rw [nv_out c35 (by omega) hl29_1] | rw [nv_no c39 hl29_1]) ?_
          exact J79
        · refine G.iload_n hX 3 rfl dX4_number_38 ?_
          refine G.b_eq hX (tgt := 79) (by decide) dX4_number_39 (fun c39 => ?_) (fun c39 => ?_)
          · refine G.lvp (lv' := [(0, .ref (o 0)), (1, .int (nI lo)), (2, .int (nI hi)), (3, .int (bI (inI (ms_by tap c q.1) 48 57))), (4, .int (it (ms_nS tap q.1) i 0))]) [0, 1, 2, 3, 4] rfl ?_
            refine G.lve (lv' := [(0, .ref (o 0)), (1, .int (nI lo)), (2, .int (nI hi)), (3, .int (bI (inI (ms_by tap c q.1) 48 57))), (4, .int (ms_nv tap c q.1 q.2.1))]) (by first | rw [nv_out c35 (by omega) hl29_1] | rw [nv_no c39 hl29_1]) ?_
            exact J79
          · have J71 : G E X 6 71 [(0, .ref (o 0)), (1, .int (nI lo)), (2, .int (nI hi)), (3, .int (bI (inI (ms_by tap c q.1) 48 57))), (5, .int (nI (q.1 + i)))] [.int (it (ms_nS tap q.1) (i + 1) 0)] [(o 0, moO o ik be so (nI c) (nI q.1) (nI q.2.1) q.2.2.1 (bI q.2.2.2)), (o 7, arI E 120 tap)] := by
              refine G.istore hX (lv' := [(4, .int (it (ms_nS tap q.1) (i + 1) 0)), (0, .ref (o 0)), (1, .int (nI lo)), (2, .int (nI hi)), (3, .int (bI (inI (ms_by tap c q.1) 48 57))), (5, .int (nI (q.1 + i)))]) (by decide) rfl dX4_number_71 ?_
              refine G.iinc hX (n := 1) (lv' := [(5, .int (nI ((q.1 + i) + 1))), (4, .int (it (ms_nS tap q.1) (i + 1) 0)), (0, .ref (o 0)), (1, .int (nI lo)), (2, .int (nI hi)), (3, .int (bI (inI (ms_by tap c q.1) 48 57)))]) 5 rfl (inc_nI (q.1 + i) 1 rfl) (by decide) rfl dX4_number_73 ?_
              refine G.goto hX (tgt := 29) (by decide) dX4_number_76 ?_
              refine G.lvp (lv' := [(0, .ref (o 0)), (1, .int (nI lo)), (2, .int (nI hi)), (3, .int (bI (inI (ms_by tap c q.1) 48 57))), (4, .int (it (ms_nS tap q.1) (i + 1) 0)), (5, .int (nI ((q.1 + i) + 1)))]) [2, 3, 4, 5, 1, 0] rfl ?_
              refine G.lve (lv' := [(0, .ref (o 0)), (1, .int (nI lo)), (2, .int (nI hi)), (3, .int (bI (inI (ms_by tap c q.1) 48 57))), (4, .int (it (ms_nS tap q.1) (i + 1) 0)), (5, .int (nI (q.1 + (i + 1))))]) (by rfl) ?_
              exact ih29 (i + 1) (by omega) (fun h9 => absurd c39 (by rw [h9]; decide)) (by omega)
            refine G.iload hX 4 rfl dX4_number_42 ?_
            refine G.sipush hX (v := 999) (by decide) dX4_number_44 ?_
            refine G.icmp_le hX (tgt := 55) (by decide) dX4_number_47 (fun c47 => ?_) (fun c47 => ?_)
            · refine G.bipush hX (v := 10) (by decide) dX4_number_55 ?_
              refine G.iload hX 4 rfl dX4_number_57 ?_
              refine G.imul hX dX4_number_59 ?_
              refine G.aload_n hX 0 rfl dX4_number_60 ?_
              refine G.get hX inc_X4_number_4 0 rfl rfl 9 (by decide) (by decide +kernel) rfl dX4_number_61 ?_
              refine G.iload hX 5 rfl dX4_number_64 ?_
              refine G.iald hX (j := q.1 + i) 1 rfl (by omega) (by omega) dX4_number_66 ?_
              refine G.iadd hX dX4_number_67 ?_
              refine G.bipush hX (v := 48) (by decide) dX4_number_68 ?_
              refine G.isub hX dX4_number_70 ?_
              refine G.lvp (lv' := [(0, .ref (o 0)), (1, .int (nI lo)), (2, .int (nI hi)), (3, .int (bI (inI (ms_by tap c q.1) 48 57))), (5, .int (nI (q.1 + i)))]) [0, 1, 2, 3, 5] rfl ?_
              refine G.ie (y := it (ms_nS tap q.1) (i + 1) 0) (by first | rfl | (simp only [it_s, ms_nS, c4, c35, c39, c47, ↓reduceIte, Bool.not_true, Bool.not_false, Bool.and_true, Bool.true_and, Bool.and_false, Bool.false_and, Bool.or_true, Bool.true_or, Bool.or_false, Bool.false_or, decide_true, decide_false, not_true_eq_false, not_false_eq_true, Bool.false_eq_true, Bool.true_eq_false]; done) | (simp only [it_s, ms_nS, c4, c35, c39, c47, ↓reduceIte, Bool.not_true, Bool.not_false, Bool.and_true, Bool.true_and, Bool.and_false, Bool.false_and, Bool.or_true, Bool.true_or, Bool.or_false, Bool.false_or, decide_true, decide_false, not_true_eq_false, not_false_eq_true, Bool.false_eq_true, Bool.true_eq_false]; rfl) | (simp [it_s, ms_nS, c4, c35, c39, c47]; done)) ?_
              exact J71
            · refine G.iload hX 4 rfl dX4_number_50 ?_
              refine G.goto hX (tgt := 71) (by decide) dX4_number_52 ?_
              refine G.lvp (lv' := [(0, .ref (o 0)), (1, .int (nI lo)), (2, .int (nI hi)), (3, .int (bI (inI (ms_by tap c q.1) 48 57))), (5, .int (nI (q.1 + i)))]) [0, 1, 2, 3, 5] rfl ?_
              refine G.ie (y := it (ms_nS tap q.1) (i + 1) 0) (by first | rfl | (simp only [it_s, ms_nS, c4, c35, c39, c47, ↓reduceIte, Bool.not_true, Bool.not_false, Bool.and_true, Bool.true_and, Bool.and_false, Bool.false_and, Bool.or_true, Bool.true_or, Bool.or_false, Bool.false_or, decide_true, decide_false, not_true_eq_false, not_false_eq_true, Bool.false_eq_true, Bool.true_eq_false]; done) | (simp only [it_s, ms_nS, c4, c35, c39, c47, ↓reduceIte, Bool.not_true, Bool.not_false, Bool.and_true, Bool.true_and, Bool.and_false, Bool.false_and, Bool.or_true, Bool.true_or, Bool.or_false, Bool.false_or, decide_true, decide_false, not_true_eq_false, not_false_eq_true, Bool.false_eq_true, Bool.true_eq_false]; rfl) | (simp [it_s, ms_nS, c4, c35, c39, c47]; done)) ?_
              exact J71
    refine G.lvp (lv' := [(0, .ref (o 0)), (1, .int (nI lo)), (2, .int (nI hi)), (3, .int (bI (inI (ms_by tap c q.1) 48 57))), (4, .int 0), (5, .int (nI q.1))]) [3, 4, 5, 2, 1, 0] rfl ?_
    refine G.lve (lv' := [(0, .ref (o 0)), (1, .int (nI lo)), (2, .int (nI hi)), (3, .int (bI (inI (ms_by tap c q.1) 48 57))), (4, .int (it (ms_nS tap q.1) 0 0)), (5, .int (nI q.1))]) (by rfl) ?_
    exact L29 (q.2.1 - q.1 + 1) 0 (by omega) (fun _ => rfl) (by omega)
  · exact G.vret hX hQ dX4_number_7 (by simp only [ms_num, c4, ↓reduceIte, Bool.false_eq_true])
abbrev rmX4_kindHere : Room := { frames := 3, cells := 0, slots := 0, locals := 68 }
theorem cp_X4_kindHere : CP yX4_kindHere RX4 wsX4_kindHere 3 0 rmX4_kindHere := ⟨⟨_, _, _, rfl⟩, rfl, rfl, by decide +kernel⟩
set_option maxHeartbeats 4000000 in
set_option maxRecDepth 100000 in
theorem c_X4_kindHere (l : Launch) (E : EV) (q : TQ) (c : Nat) (o : Nat → Nat) (ik : Int32) (be : Int32) (so : Int32) (tap : Nat → Int32) (h1 : OKq c q) (h2 : c ≤ 120) : CI l yX4_kindHere wsX4_kindHere rmX4_kindHere E [.ref (o 0)] [(o 0, moO o ik be so (nI c) (nI q.1) (nI q.2.1) q.2.2.1 (bI q.2.2.2)), (o 7, arI E 120 tap)] [(o 0, moO o ik be so (nI c) (nI q.1) (nI q.2.1) q.2.2.1 (bI q.2.2.2)), (o 7, arI E 120 tap)] (ms_kd (ms_wd tap c q)) := by
  refine CI.of (own := RX4) (cc := cX4_kindHere) (nL := 3) (rt := (some .int)) (by decide) rfl rfl (Nat.le_of_ble_eq_true rfl) (fun X hX hQ => ?_)
  show G E X 3 0 [(0, .ref (o 0))] [] [(o 0, moO o ik be so (nI c) (nI q.1) (nI q.2.1) q.2.2.1 (bI q.2.2.2)), (o 7, arI E 120 tap)]
  refine G.aload_n hX 0 rfl dX4_kindHere_0 ?_
  refine G.vl hX (As := []) (st := []) (wr := []) (wf := [(o 0, moO o ik be so (nI c) (nI q.1) (nI q.2.1) q.2.2.1 (bI q.2.2.2)), (o 7, arI E 120 tap)]) (q0 := 0) (ci := 4) rfl rfl (c_X4_word _ E (q := q) (c := c) (o := o) (ik := ik) (be := be) (so := so) (tap := tap) (h1 := by first | assumption | exact ok_must (by assumption) (by omega) | exact ok_num (by assumption) (by omega) | exact ok_num (ok_must (by assumption) (by omega)) (by omega) | exact ok_t2 (by assumption) (by omega) | exact ok_t3 (by assumption) (by omega) | exact ok_t4 (by assumption) (by omega) | exact ok_must (ok_t4 (by assumption) (by omega)) (by omega) | exact ok_w2 (by assumption) (by omega)) (h2 := by omega)) gX4_kindHere_X4_word cp_X4_word (by decide) [0, 1] [] [0, 1] ⟨rfl, rfl, by decide, rfl⟩ rfl rfl (Nat.le_of_ble_eq_true rfl) dX4_kindHere_1 ?_
  refine G.lstore_n hX (lv' := [(1, .long (ms_wd tap c q)), (0, .ref (o 0))]) rfl (by decide) rfl dX4_kindHere_4 ?_
  refine G.lload_n hX 0 rfl dX4_kindHere_5 ?_
  refine G.ldc2 hX (v := 402853) (by decide +kernel) dX4_kindHere_6 ?_
  refine G.lcmp hX dX4_kindHere_9 ?_
  refine G.c_ne hX (tgt := 17) (by decide) dX4_kindHere_10 (fun c10 => ?_) (fun c10 => ?_)
  · refine G.lload_n hX 0 rfl dX4_kindHere_17 ?_
    refine G.ldc2 hX (v := 5517) (by decide +kernel) dX4_kindHere_18 ?_
    refine G.lcmp hX dX4_kindHere_21 ?_
    refine G.c_ne hX (tgt := 29) (by decide) dX4_kindHere_22 (fun c22 => ?_) (fun c22 => ?_)
    · refine G.lload_n hX 0 rfl dX4_kindHere_29 ?_
      refine G.ldc2 hX (v := 20451829191) (by decide +kernel) dX4_kindHere_30 ?_
      refine G.lcmp hX dX4_kindHere_33 ?_
      refine G.c_ne hX (tgt := 41) (by decide) dX4_kindHere_34 (fun c34 => ?_) (fun c34 => ?_)
      · refine G.lload_n hX 0 rfl dX4_kindHere_41 ?_
        refine G.ldc2 hX (v := 20600240) (by decide +kernel) dX4_kindHere_42 ?_
        refine G.lcmp hX dX4_kindHere_45 ?_
        refine G.c_ne hX (tgt := 53) (by decide) dX4_kindHere_46 (fun c46 => ?_) (fun c46 => ?_)
        · refine G.lload_n hX 0 rfl dX4_kindHere_53 ?_
          refine G.ldc2 hX (v := 15403) (by decide +kernel) dX4_kindHere_54 ?_
          refine G.lcmp hX dX4_kindHere_57 ?_
          refine G.c_ne hX (tgt := 65) (by decide) dX4_kindHere_58 (fun c58 => ?_) (fun c58 => ?_)
          · refine G.lload_n hX 0 rfl dX4_kindHere_65 ?_
            refine G.ldc2 hX (v := 7931092) (by decide +kernel) dX4_kindHere_66 ?_
            refine G.lcmp hX dX4_kindHere_69 ?_
            refine G.c_ne hX (tgt := 77) (by decide) dX4_kindHere_70 (fun c70 => ?_) (fun c70 => ?_)
            · refine G.iconst hX (v := -1) (by decide) dX4_kindHere_77 ?_
              exact G.iret hX hQ dX4_kindHere_78 (by first | rfl | (simp only [ms_kd, c10, c22, c34, c46, c58, c70, ↓reduceIte, Bool.not_true, Bool.not_false, Bool.and_true, Bool.true_and, Bool.and_false, Bool.false_and, Bool.or_true, Bool.true_or, Bool.or_false, Bool.false_or, decide_true, decide_false, not_true_eq_false, not_false_eq_true, Bool.false_eq_true, Bool.true_eq_false]; done) | (simp only [ms_kd, c10, c22, c34, c46, c58, c70, ↓reduceIte, Bool.not_true, Bool.not_false, Bool.and_true, Bool.true_and, Bool.and_false, Bool.false_and, Bool.or_true, Bool.true_or, Bool.or_false, Bool.false_or, decide_true, decide_false, not_true_eq_false, not_false_eq_true, Bool.false_eq_true, Bool.true_eq_false]; rfl) | (simp [ms_kd, c10, c22, c34, c46, c58, c70]; done)) (by rfl)
            · refine G.iconst hX (v := 5) (by decide) dX4_kindHere_73 ?_
              refine G.goto hX (tgt := 78) (by decide) dX4_kindHere_74 ?_
              exact G.iret hX hQ dX4_kindHere_78 (by first | rfl | (simp only [ms_kd, c10, c22, c34, c46, c58, c70, ↓reduceIte, Bool.not_true, Bool.not_false, Bool.and_true, Bool.true_and, Bool.and_false, Bool.false_and, Bool.or_true, Bool.true_or, Bool.or_false, Bool.false_or, decide_true, decide_false, not_true_eq_false, not_false_eq_true, Bool.false_eq_true, Bool.true_eq_false]; done) | (simp only [ms_kd, c10, c22, c34, c46, c58, c70, ↓reduceIte, Bool.not_true, Bool.not_false, Bool.and_true, Bool.true_and, Bool.and_false, Bool.false_and, Bool.or_true, Bool.true_or, Bool.or_false, Bool.false_or, decide_true, decide_false, not_true_eq_false, not_false_eq_true, Bool.false_eq_true, Bool.true_eq_false]; rfl) | (simp [ms_kd, c10, c22, c34, c46, c58, c70]; done)) (by rfl)
          · refine G.iconst hX (v := 4) (by decide) dX4_kindHere_61 ?_
            refine G.goto hX (tgt := 78) (by decide) dX4_kindHere_62 ?_
            exact G.iret hX hQ dX4_kindHere_78 (by first | rfl | (simp only [ms_kd, c10, c22, c34, c46, c58, ↓reduceIte, Bool.not_true, Bool.not_false, Bool.and_true, Bool.true_and, Bool.and_false, Bool.false_and, Bool.or_true, Bool.true_or, Bool.or_false, Bool.false_or, decide_true, decide_false, not_true_eq_false, not_false_eq_true, Bool.false_eq_true, Bool.true_eq_false]; done) | (simp only [ms_kd, c10, c22, c34, c46, c58, ↓reduceIte, Bool.not_true, Bool.not_false, Bool.and_true, Bool.true_and, Bool.and_false, Bool.false_and, Bool.or_true, Bool.true_or, Bool.or_false, Bool.false_or, decide_true, decide_false, not_true_eq_false, not_false_eq_true, Bool.false_eq_true, Bool.true_eq_false]; rfl) | (simp [ms_kd, c10, c22, c34, c46, c58]; done)) (by rfl)
        · refine G.iconst hX (v := 3) (by decide) dX4_kindHere_49 ?_
          refine G.goto hX (tgt := 78) (by decide) dX4_kindHere_50 ?_
          exact G.iret hX hQ dX4_kindHere_78 (by first | rfl | (simp only [ms_kd, c10, c22, c34, c46, ↓reduceIte, Bool.not_true, Bool.not_false, Bool.and_true, Bool.true_and, Bool.and_false, Bool.false_and, Bool.or_true, Bool.true_or, Bool.or_false, Bool.false_or, decide_true, decide_false, not_true_eq_false, not_false_eq_true, Bool.false_eq_true, Bool.true_eq_false]; done) | (simp only [ms_kd, c10, c22, c34, c46, ↓reduceIte, Bool.not_true, Bool.not_false, Bool.and_true, Bool.true_and, Bool.and_false, Bool.false_and, Bool.or_true, Bool.true_or, Bool.or_false, Bool.false_or, decide_true, decide_false, not_true_eq_false, not_false_eq_true, Bool.false_eq_true, Bool.true_eq_false]; rfl) | (simp [ms_kd, c10, c22, c34, c46]; done)) (by rfl)
      · refine G.iconst hX (v := 2) (by decide) dX4_kindHere_37 ?_
        refine G.goto hX (tgt := 78) (by decide) dX4_kindHere_38 ?_
        exact G.iret hX hQ dX4_kindHere_78 (by first | rfl | (simp only [ms_kd, c10, c22, c34, ↓reduceIte, Bool.not_true, Bool.not_false, Bool.and_true, Bool.true_and, Bool.and_false, Bool.false_and, Bool.or_true, Bool.true_or, Bool.or_false, Bool.false_or, decide_true, decide_false, not_true_eq_false, not_false_eq_true, Bool.false_eq_true, Bool.true_eq_false]; done) | (simp only [ms_kd, c10, c22, c34, ↓reduceIte, Bool.not_true, Bool.not_false, Bool.and_true, Bool.true_and, Bool.and_false, Bool.false_and, Bool.or_true, Bool.true_or, Bool.or_false, Bool.false_or, decide_true, decide_false, not_true_eq_false, not_false_eq_true, Bool.false_eq_true, Bool.true_eq_false]; rfl) | (simp [ms_kd, c10, c22, c34]; done)) (by rfl)
    · refine G.iconst hX (v := 1) (by decide) dX4_kindHere_25 ?_
      refine G.goto hX (tgt := 78) (by decide) dX4_kindHere_26 ?_
      exact G.iret hX hQ dX4_kindHere_78 (by first | rfl | (simp only [ms_kd, c10, c22, ↓reduceIte, Bool.not_true, Bool.not_false, Bool.and_true, Bool.true_and, Bool.and_false, Bool.false_and, Bool.or_true, Bool.true_or, Bool.or_false, Bool.false_or, decide_true, decide_false, not_true_eq_false, not_false_eq_true, Bool.false_eq_true, Bool.true_eq_false]; done) | (simp only [ms_kd, c10, c22, ↓reduceIte, Bool.not_true, Bool.not_false, Bool.and_true, Bool.true_and, Bool.and_false, Bool.false_and, Bool.or_true, Bool.true_or, Bool.or_false, Bool.false_or, decide_true, decide_false, not_true_eq_false, not_false_eq_true, Bool.false_eq_true, Bool.true_eq_false]; rfl) | (simp [ms_kd, c10, c22]; done)) (by rfl)
  · refine G.iconst hX (v := 0) (by decide) dX4_kindHere_13 ?_
    refine G.goto hX (tgt := 78) (by decide) dX4_kindHere_14 ?_
    exact G.iret hX hQ dX4_kindHere_78 (by first | rfl | (simp only [ms_kd, c10, ↓reduceIte, Bool.not_true, Bool.not_false, Bool.and_true, Bool.true_and, Bool.and_false, Bool.false_and, Bool.or_true, Bool.true_or, Bool.or_false, Bool.false_or, decide_true, decide_false, not_true_eq_false, not_false_eq_true, Bool.false_eq_true, Bool.true_eq_false]; done) | (simp only [ms_kd, c10, ↓reduceIte, Bool.not_true, Bool.not_false, Bool.and_true, Bool.true_and, Bool.and_false, Bool.false_and, Bool.or_true, Bool.true_or, Bool.or_false, Bool.false_or, decide_true, decide_false, not_true_eq_false, not_false_eq_true, Bool.false_eq_true, Bool.true_eq_false]; rfl) | (simp [ms_kd, c10]; done)) (by rfl)
abbrev rmX4_treeItem : Room := { frames := 5, cells := 0, slots := 0, locals := 113 }
theorem cp_X4_treeItem : CP yX4_treeItem RX4 wsX4_treeItem 3 1 rmX4_treeItem := ⟨⟨_, _, _, rfl⟩, rfl, rfl, by decide +kernel⟩
theorem inc_X4_treeItem_4 : ∀ w ∈ u_ws RX4 TX4 19, w ∈ wsX4_treeItem := by decide +kernel
set_option maxHeartbeats 4000000 in
set_option maxRecDepth 100000 in
theorem c_X4_treeItem (l : Launch) (E : EV) (kd : Int32) (q : TQ) (c : Nat) (o : Nat → Nat) (ik : Int32) (be : Int32) (so : Int32) (s : Nat → Int32) (tap : Nat → Int32) (h1 : OKq c q) (h2 : c ≤ 120) : CV l yX4_treeItem wsX4_treeItem rmX4_treeItem E [.ref (o 0), .int kd] [(o 0, moO o ik be so (nI c) (nI q.1) (nI q.2.1) q.2.2.1 (bI q.2.2.2)), (o 1, arI E 122 s), (o 7, arI E 120 tap)] [(o 0, moO o ik be so (nI c) (nI (((ms_ti tap c s kd q).2).1)) (nI (((ms_ti tap c s kd q).2).2.1)) (((ms_ti tap c s kd q).2).2.2.1) (bI (((ms_ti tap c s kd q).2).2.2.2))), (o 1, arI E 122 ((ms_ti tap c s kd q).1)), (o 7, arI E 120 tap)] := by
  refine CV.of (own := RX4) (cc := cX4_treeItem) (nL := 3) (rt := none) (by decide) rfl rfl (Nat.le_of_ble_eq_true rfl) (fun X hX hQ => ?_)
  show G E X 3 0 [(0, .ref (o 0)), (1, .int kd)] [] [(o 0, moO o ik be so (nI c) (nI q.1) (nI q.2.1) q.2.2.1 (bI q.2.2.2)), (o 1, arI E 122 s), (o 7, arI E 120 tap)]
  refine G.aload_n hX 0 rfl dX4_treeItem_0 ?_
  refine G.iconst hX (v := 1) (by decide) dX4_treeItem_1 ?_
  refine G.vv hX (As := [.int 1]) (st := []) (wr := [(o 1, arI E 122 s)]) (wf := [(o 0, moO o ik be so (nI c) (nI ((ms_must tap c true q).1)) (nI ((ms_must tap c true q).2.1)) ((ms_must tap c true q).2.2.1) (bI ((ms_must tap c true q).2.2.2))), (o 1, arI E 122 s), (o 7, arI E 120 tap)]) (q0 := 0) (ci := 4) rfl rfl (c_X4_must _ E (b := true) (q := q) (c := c) (o := o) (ik := ik) (be := be) (so := so) (tap := tap) (h1 := by first | assumption | exact ok_must (by assumption) (by omega) | exact ok_num (by assumption) (by omega) | exact ok_num (ok_must (by assumption) (by omega)) (by omega) | exact ok_t2 (by assumption) (by omega) | exact ok_t3 (by assumption) (by omega) | exact ok_t4 (by assumption) (by omega) | exact ok_must (ok_t4 (by assumption) (by omega)) (by omega) | exact ok_w2 (by assumption) (by omega)) (h2 := by omega)) gX4_treeItem_X4_must cp_X4_must (by decide) [0, 2] [1] [1, 0, 2] ⟨rfl, rfl, by decide, rfl⟩ rfl rfl (Nat.le_of_ble_eq_true rfl) dX4_treeItem_2 ?_
  refine G.aload_n hX 0 rfl dX4_treeItem_5 ?_
  refine G.aload_n hX 0 rfl dX4_treeItem_6 ?_
  refine G.vl hX (As := []) (st := [.ref (o 0)]) (wr := [(o 1, arI E 122 s)]) (wf := [(o 0, moO o ik be so (nI c) (nI ((ms_must tap c true q).1)) (nI ((ms_must tap c true q).2.1)) ((ms_must tap c true q).2.2.1) (bI ((ms_must tap c true q).2.2.2))), (o 1, arI E 122 s), (o 7, arI E 120 tap)]) (q0 := 0) (ci := 4) rfl rfl (c_X4_word _ E (q := ms_must tap c true q) (c := c) (o := o) (ik := ik) (be := be) (so := so) (tap := tap) (h1 := by first | assumption | exact ok_must (by assumption) (by omega) | exact ok_num (by assumption) (by omega) | exact ok_num (ok_must (by assumption) (by omega)) (by omega) | exact ok_t2 (by assumption) (by omega) | exact ok_t3 (by assumption) (by omega) | exact ok_t4 (by assumption) (by omega) | exact ok_must (ok_t4 (by assumption) (by omega)) (by omega) | exact ok_w2 (by assumption) (by omega)) (h2 := by omega)) gX4_treeItem_X4_word cp_X4_word (by decide) [0, 2] [1] [1, 0, 2] ⟨rfl, rfl, by decide, rfl⟩ rfl rfl (Nat.le_of_ble_eq_true rfl) dX4_treeItem_7 ?_
  have J22 : G E X 3 22 [(0, .ref (o 0)), (1, .int kd)] [.int (bI (decide (ms_wd tap c (ms_must tap c true q) = 52))), .ref (o 0)] [(o 0, moO o ik be so (nI c) (nI ((ms_must tap c true q).1)) (nI ((ms_must tap c true q).2.1)) ((ms_must tap c true q).2.2.1) (bI ((ms_must tap c true q).2.2.2))), (o 1, arI E 122 s), (o 7, arI E 120 tap)] := by
    refine G.vv hX (As := [.int (bI (decide (ms_wd tap c (ms_must tap c true q) = 52)))]) (st := []) (wr := [(o 1, arI E 122 s)]) (wf := [(o 0, moO o ik be so (nI c) (nI ((ms_must tap c (decide (ms_wd tap c (ms_must tap c true q) = 52)) (ms_must tap c true q)).1)) (nI ((ms_must tap c (decide (ms_wd tap c (ms_must tap c true q) = 52)) (ms_must tap c true q)).2.1)) ((ms_must tap c (decide (ms_wd tap c (ms_must tap c true q) = 52)) (ms_must tap c true q)).2.2.1) (bI ((ms_must tap c (decide (ms_wd tap c (ms_must tap c true q) = 52)) (ms_must tap c true q)).2.2.2))), (o 1, arI E 122 s), (o 7, arI E 120 tap)]) (q0 := 0) (ci := 4) rfl rfl (c_X4_must _ E (b := decide (ms_wd tap c (ms_must tap c true q) = 52)) (q := ms_must tap c true q) (c := c) (o := o) (ik := ik) (be := be) (so := so) (tap := tap) (h1 := by first | assumption | exact ok_must (by assumption) (by omega) | exact ok_num (by assumption) (by omega) | exact ok_num (ok_must (by assumption) (by omega)) (by omega) | exact ok_t2 (by assumption) (by omega) | exact ok_t3 (by assumption) (by omega) | exact ok_t4 (by assumption) (by omega) | exact ok_must (ok_t4 (by assumption) (by omega)) (by omega) | exact ok_w2 (by assumption) (by omega)) (h2 := by omega)) gX4_treeItem_X4_must cp_X4_must (by decide) [0, 2] [1] [1, 0, 2] ⟨rfl, rfl, by decide, rfl⟩ rfl rfl (Nat.le_of_ble_eq_true rfl) dX4_treeItem_22 ?_
    refine G.we (ws' := [(o 0, moO o ik be so (nI c) (nI ((ms_t2 tap c q).1)) (nI ((ms_t2 tap c q).2.1)) ((ms_t2 tap c q).2.2.1) (bI ((ms_t2 tap c q).2.2.2))), (o 1, arI E 122 s), (o 7, arI E 120 tap)]) (by rfl) ?_
    refine G.aload_n hX 0 rfl dX4_treeItem_25 ?_
    refine G.iconst hX (v := 0) (by decide) dX4_treeItem_26 ?_
    refine G.iconst hX (v := 5) (by decide) dX4_treeItem_27 ?_
    refine G.vv hX (As := [.int 0, .int 5]) (st := []) (wr := [(o 1, arI E 122 s)]) (wf := [(o 0, moO o ik be so (nI c) (nI ((ms_num tap c 0 5 (ms_t2 tap c q)).1)) (nI ((ms_num tap c 0 5 (ms_t2 tap c q)).2.1)) ((ms_num tap c 0 5 (ms_t2 tap c q)).2.2.1) (bI ((ms_num tap c 0 5 (ms_t2 tap c q)).2.2.2))), (o 1, arI E 122 s), (o 7, arI E 120 tap)]) (q0 := 0) (ci := 4) rfl rfl (c_X4_number _ E (lo := 0) (hi := 5) (q := ms_t2 tap c q) (c := c) (o := o) (ik := ik) (be := be) (so := so) (tap := tap) (h1 := by first | assumption | exact ok_must (by assumption) (by omega) | exact ok_num (by assumption) (by omega) | exact ok_num (ok_must (by assumption) (by omega)) (by omega) | exact ok_t2 (by assumption) (by omega) | exact ok_t3 (by assumption) (by omega) | exact ok_t4 (by assumption) (by omega) | exact ok_must (ok_t4 (by assumption) (by omega)) (by omega) | exact ok_w2 (by assumption) (by omega)) (h2 := by omega) (h3 := by omega) (h4 := by omega)) gX4_treeItem_X4_number cp_X4_number (by decide) [0, 2] [1] [1, 0, 2] ⟨rfl, rfl, by decide, rfl⟩ rfl rfl (Nat.le_of_ble_eq_true rfl) dX4_treeItem_28 ?_
    refine G.we (ws' := [(o 0, moO o ik be so (nI c) (nI ((ms_t3 tap c q).1)) (nI ((ms_t3 tap c q).2.1)) ((ms_t3 tap c q).2.2.1) (bI ((ms_t3 tap c q).2.2.2))), (o 1, arI E 122 s), (o 7, arI E 120 tap)]) (by rfl) ?_
    refine G.iconst hX (v := 2) (by decide) dX4_treeItem_31 ?_
    refine G.aload_n hX 0 rfl dX4_treeItem_32 ?_
    refine G.get hX inc_X4_treeItem_4 0 rfl rfl 13 (by decide) (by decide +kernel) rfl dX4_treeItem_33 ?_
    refine G.imul hX dX4_treeItem_36 ?_
    refine G.istore_n hX (lv' := [(2, .int (2 * ((ms_t3 tap c q).2.2.1))), (0, .ref (o 0)), (1, .int kd)]) rfl (by decide) rfl dX4_treeItem_37 ?_
    refine G.aload_n hX 1 rfl dX4_treeItem_38 ?_
    refine G.iconst hX (v := 0) (by decide) dX4_treeItem_39 ?_
    refine G.iconst hX (v := 1) (by decide) dX4_treeItem_40 ?_
    refine G.vv hX (As := [.int 0, .int 1]) (st := []) (wr := [(o 1, arI E 122 s)]) (wf := [(o 0, moO o ik be so (nI c) (nI ((ms_num tap c 0 1 (ms_t3 tap c q)).1)) (nI ((ms_num tap c 0 1 (ms_t3 tap c q)).2.1)) ((ms_num tap c 0 1 (ms_t3 tap c q)).2.2.1) (bI ((ms_num tap c 0 1 (ms_t3 tap c q)).2.2.2))), (o 1, arI E 122 s), (o 7, arI E 120 tap)]) (q0 := 0) (ci := 4) rfl rfl (c_X4_number _ E (lo := 0) (hi := 1) (q := ms_t3 tap c q) (c := c) (o := o) (ik := ik) (be := be) (so := so) (tap := tap) (h1 := by first | assumption | exact ok_must (by assumption) (by omega) | exact ok_num (by assumption) (by omega) | exact ok_num (ok_must (by assumption) (by omega)) (by omega) | exact ok_t2 (by assumption) (by omega) | exact ok_t3 (by assumption) (by omega) | exact ok_t4 (by assumption) (by omega) | exact ok_must (ok_t4 (by assumption) (by omega)) (by omega) | exact ok_w2 (by assumption) (by omega)) (h2 := by omega) (h3 := by omega) (h4 := by omega)) gX4_treeItem_X4_number cp_X4_number (by decide) [0, 2] [1] [1, 0, 2] ⟨rfl, rfl, by decide, rfl⟩ rfl rfl (Nat.le_of_ble_eq_true rfl) dX4_treeItem_41 ?_
    refine G.we (ws' := [(o 0, moO o ik be so (nI c) (nI ((ms_t4 tap c q).1)) (nI ((ms_t4 tap c q).2.1)) ((ms_t4 tap c q).2.2.1) (bI ((ms_t4 tap c q).2.2.2))), (o 1, arI E 122 s), (o 7, arI E 120 tap)]) (by rfl) ?_
    refine G.aload_n hX 1 rfl dX4_treeItem_44 ?_
    refine G.get hX inc_X4_treeItem_4 0 rfl rfl 14 (by decide) (by decide +kernel) rfl dX4_treeItem_45 ?_
    refine G.b_eq hX (tgt := 52) (by decide) dX4_treeItem_48 (fun c48 => ?_) (fun c48 => ?_)
    · have hx := tx_ok c48
      refine G.iload_n hX 0 rfl dX4_treeItem_52 ?_
      refine G.aload_n hX 1 rfl dX4_treeItem_53 ?_
      refine G.get hX inc_X4_treeItem_4 0 rfl rfl 13 (by decide) (by decide +kernel) rfl dX4_treeItem_54 ?_
      refine G.iadd hX dX4_treeItem_57 ?_
      refine G.ie (y := nI (ms_tx tap c q)) (by exact hx.1) ?_
      refine G.istore_n hX (lv' := [(2, .int (nI (ms_tx tap c q))), (0, .ref (o 0)), (1, .int kd)]) rfl (by decide) rfl dX4_treeItem_58 ?_
      refine G.aload_n hX 1 rfl dX4_treeItem_59 ?_
      refine G.iload_n hX 0 rfl dX4_treeItem_60 ?_
      refine G.iload_n hX 2 rfl dX4_treeItem_61 ?_
      refine G.iconst hX (v := 0) (by decide) dX4_treeItem_62 ?_
      refine G.vv hX (As := [.int (nI (ms_tx tap c q)), .int kd, .int 0]) (st := []) (wr := [(o 7, arI E 120 tap)]) (wf := [(o 0, moO o ik be so (nI c) (nI ((ms_t4 tap c q).1)) (nI ((ms_t4 tap c q).2.1)) ((ms_t4 tap c q).2.2.1) (bI ((ms_t4 tap c q).2.2.2))), (o 1, arI E 122 (ms_sets s (ms_tx tap c q) kd 0)), (o 7, arI E 120 tap)]) (q0 := 0) (ci := 4) rfl rfl (c_X4_sets _ E (t := ms_tx tap c q) (k := kd) (ag := 0) (o := o) (ik := ik) (be := be) (so := so) (tp := nI c) (fr := nI ((ms_t4 tap c q).1)) (tq := nI ((ms_t4 tap c q).2.1)) (vl := (ms_t4 tap c q).2.2.1) (wr := bI ((ms_t4 tap c q).2.2.2)) (s := s) (h1 := by omega)) gX4_treeItem_X4_sets cp_X4_sets (by decide) [0, 1] [2] [1, 2, 0] ⟨rfl, rfl, by decide, rfl⟩ rfl rfl (Nat.le_of_ble_eq_true rfl) dX4_treeItem_63 ?_
      refine G.aload_n hX 1 rfl dX4_treeItem_66 ?_
      refine G.vl hX (As := []) (st := []) (wr := [(o 1, arI E 122 (ms_sets s (ms_tx tap c q) kd 0))]) (wf := [(o 0, moO o ik be so (nI c) (nI ((ms_t4 tap c q).1)) (nI ((ms_t4 tap c q).2.1)) ((ms_t4 tap c q).2.2.1) (bI ((ms_t4 tap c q).2.2.2))), (o 1, arI E 122 (ms_sets s (ms_tx tap c q) kd 0)), (o 7, arI E 120 tap)]) (q0 := 0) (ci := 4) rfl rfl (c_X4_word _ E (q := ms_t4 tap c q) (c := c) (o := o) (ik := ik) (be := be) (so := so) (tap := tap) (h1 := by first | assumption | exact ok_must (by assumption) (by omega) | exact ok_num (by assumption) (by omega) | exact ok_num (ok_must (by assumption) (by omega)) (by omega) | exact ok_t2 (by assumption) (by omega) | exact ok_t3 (by assumption) (by omega) | exact ok_t4 (by assumption) (by omega) | exact ok_must (ok_t4 (by assumption) (by omega)) (by omega) | exact ok_w2 (by assumption) (by omega)) (h2 := by omega)) gX4_treeItem_X4_word cp_X4_word (by decide) [0, 2] [1] [1, 0, 2] ⟨rfl, rfl, by decide, rfl⟩ rfl rfl (Nat.le_of_ble_eq_true rfl) dX4_treeItem_67 ?_
      refine G.ldc2 hX (v := 1253) (by decide +kernel) dX4_treeItem_70 ?_
      refine G.lcmp hX dX4_treeItem_73 ?_
      refine G.c_ne hX (tgt := 115) (by decide) dX4_treeItem_74 (fun c74 => ?_) (fun c74 => ?_)
      · exact G.vret hX hQ dX4_treeItem_115 (by simp only [ms_ti, c48, c74, ↓reduceIte, Bool.false_eq_true])
      · refine G.aload_n hX 1 rfl dX4_treeItem_77 ?_
        refine G.iconst hX (v := 1) (by decide) dX4_treeItem_78 ?_
        refine G.vv hX (As := [.int 1]) (st := []) (wr := [(o 1, arI E 122 (ms_sets s (ms_tx tap c q) kd 0))]) (wf := [(o 0, moO o ik be so (nI c) (nI ((ms_must tap c true (ms_t4 tap c q)).1)) (nI ((ms_must tap c true (ms_t4 tap c q)).2.1)) ((ms_must tap c true (ms_t4 tap c q)).2.2.1) (bI ((ms_must tap c true (ms_t4 tap c q)).2.2.2))), (o 1, arI E 122 (ms_sets s (ms_tx tap c q) kd 0)), (o 7, arI E 120 tap)]) (q0 := 0) (ci := 4) rfl rfl (c_X4_must _ E (b := true) (q := ms_t4 tap c q) (c := c) (o := o) (ik := ik) (be := be) (so := so) (tap := tap) (h1 := by first | assumption | exact ok_must (by assumption) (by omega) | exact ok_num (by assumption) (by omega) | exact ok_num (ok_must (by assumption) (by omega)) (by omega) | exact ok_t2 (by assumption) (by omega) | exact ok_t3 (by assumption) (by omega) | exact ok_t4 (by assumption) (by omega) | exact ok_must (ok_t4 (by assumption) (by omega)) (by omega) | exact ok_w2 (by assumption) (by omega)) (h2 := by omega)) gX4_treeItem_X4_must cp_X4_must (by decide) [0, 2] [1] [1, 0, 2] ⟨rfl, rfl, by decide, rfl⟩ rfl rfl (Nat.le_of_ble_eq_true rfl) dX4_treeItem_79 ?_
        refine G.aload_n hX 1 rfl dX4_treeItem_82 ?_
        refine G.iconst hX (v := 0) (by decide) dX4_treeItem_83 ?_
        refine G.sipush hX (v := 999) (by decide) dX4_treeItem_84 ?_
        refine G.vv hX (As := [.int 0, .int 999]) (st := []) (wr := [(o 1, arI E 122 (ms_sets s (ms_tx tap c q) kd 0))]) (wf := [(o 0, moO o ik be so (nI c) (nI ((ms_num tap c 0 999 (ms_must tap c true (ms_t4 tap c q))).1)) (nI ((ms_num tap c 0 999 (ms_must tap c true (ms_t4 tap c q))).2.1)) ((ms_num tap c 0 999 (ms_must tap c true (ms_t4 tap c q))).2.2.1) (bI ((ms_num tap c 0 999 (ms_must tap c true (ms_t4 tap c q))).2.2.2))), (o 1, arI E 122 (ms_sets s (ms_tx tap c q) kd 0)), (o 7, arI E 120 tap)]) (q0 := 0) (ci := 4) rfl rfl (c_X4_number _ E (lo := 0) (hi := 999) (q := ms_must tap c true (ms_t4 tap c q)) (c := c) (o := o) (ik := ik) (be := be) (so := so) (tap := tap) (h1 := by first | assumption | exact ok_must (by assumption) (by omega) | exact ok_num (by assumption) (by omega) | exact ok_num (ok_must (by assumption) (by omega)) (by omega) | exact ok_t2 (by assumption) (by omega) | exact ok_t3 (by assumption) (by omega) | exact ok_t4 (by assumption) (by omega) | exact ok_must (ok_t4 (by assumption) (by omega)) (by omega) | exact ok_w2 (by assumption) (by omega)) (h2 := by omega) (h3 := by omega) (h4 := by omega)) gX4_treeItem_X4_number cp_X4_number (by decide) [0, 2] [1] [1, 0, 2] ⟨rfl, rfl, by decide, rfl⟩ rfl rfl (Nat.le_of_ble_eq_true rfl) dX4_treeItem_87 ?_
        refine G.we (ws' := [(o 0, moO o ik be so (nI c) (nI ((ms_t6 tap c q).1)) (nI ((ms_t6 tap c q).2.1)) ((ms_t6 tap c q).2.2.1) (bI ((ms_t6 tap c q).2.2.2))), (o 1, arI E 122 (ms_sets s (ms_tx tap c q) kd 0)), (o 7, arI E 120 tap)]) (by rfl) ?_
        refine G.aload_n hX 1 rfl dX4_treeItem_90 ?_
        refine G.get hX inc_X4_treeItem_4 0 rfl rfl 0 (by decide) (by decide +kernel) rfl dX4_treeItem_91 ?_
        refine G.iload_n hX 0 rfl dX4_treeItem_94 ?_
        refine G.iconst hX (v := 1) (by decide) dX4_treeItem_95 ?_
        refine G.s0i hX (As := [.int (nI (ms_tx tap c q)), .int 1]) (st := [.ref (o 1)]) (c_X4_spotOf _ E (t := ms_tx tap c q) (w := 1) ) gX4_treeItem_X4_spotOf cp_X4_spotOf (by decide) rfl rfl (Nat.le_of_ble_eq_true rfl) dX4_treeItem_96 ?_
        have J114 : G E X 3 114 [] [.int (if (ms_t6 tap c q).2.2.2 then 0 else (ms_t6 tap c q).2.2.1), .int (nI (2 + 10 * (ms_tx tap c q) + 1)), .ref (o 1)] [(o 0, moO o ik be so (nI c) (nI ((ms_t6 tap c q).1)) (nI ((ms_t6 tap c q).2.1)) ((ms_t6 tap c q).2.2.1) (bI ((ms_t6 tap c q).2.2.2))), (o 1, arI E 122 (ms_sets s (ms_tx tap c q) kd 0)), (o 7, arI E 120 tap)] := by
          refine G.iast hX (j := 2 + 10 * (ms_tx tap c q) + 1) (ws' := [(o 0, moO o ik be so (nI c) (nI ((ms_t6 tap c q).1)) (nI ((ms_t6 tap c q).2.1)) ((ms_t6 tap c q).2.2.1) (bI ((ms_t6 tap c q).2.2.2))), (o 1, arI E 122 (upd (ms_sets s (ms_tx tap c q) kd 0) (2 + 10 * (ms_tx tap c q) + 1) (if (ms_t6 tap c q).2.2.2 then 0 else (ms_t6 tap c q).2.2.1))), (o 7, arI E 120 tap)]) 1 rfl (by omega) (by omega) rfl rfl dX4_treeItem_114 ?_
          exact G.vret hX hQ dX4_treeItem_115 (by simp only [ms_ti, c48, c74, ↓reduceIte, Bool.false_eq_true])
        refine G.aload_n hX 1 rfl dX4_treeItem_99 ?_
        refine G.get hX inc_X4_treeItem_4 0 rfl rfl 14 (by decide) (by decide +kernel) rfl dX4_treeItem_100 ?_
        refine G.b_eq hX (tgt := 110) (by decide) dX4_treeItem_103 (fun c103 => ?_) (fun c103 => ?_)
        · refine G.aload_n hX 1 rfl dX4_treeItem_110 ?_
          refine G.get hX inc_X4_treeItem_4 0 rfl rfl 13 (by decide) (by decide +kernel) rfl dX4_treeItem_111 ?_
          refine G.lvp (lv' := []) [] rfl ?_
          refine G.ve (y := .int (if (ms_t6 tap c q).2.2.2 then 0 else (ms_t6 tap c q).2.2.1)) (by first | rfl | (simp only [c48, c74, c103, ↓reduceIte, Bool.not_true, Bool.not_false, Bool.and_true, Bool.true_and, Bool.and_false, Bool.false_and, Bool.or_true, Bool.true_or, Bool.or_false, Bool.false_or, decide_true, decide_false, not_true_eq_false, not_false_eq_true, Bool.false_eq_true, Bool.true_eq_false]; done) | (simp only [c48, c74, c103, ↓reduceIte, Bool.not_true, Bool.not_false, Bool.and_true, Bool.true_and, Bool.and_false, Bool.false_and, Bool.or_true, Bool.true_or, Bool.or_false, Bool.false_or, decide_true, decide_false, not_true_eq_false, not_false_eq_true, Bool.false_eq_true, Bool.true_eq_false]; rfl) | (simp [c48, c74, c103]; done)) ?_
          exact J114
        · refine G.iconst hX (v := 0) (by decide) dX4_treeItem_106 ?_
          refine G.goto hX (tgt := 114) (by decide) dX4_treeItem_107 ?_
          refine G.lvp (lv' := []) [] rfl ?_
          refine G.ve (y := .int (if (ms_t6 tap c q).2.2.2 then 0 else (ms_t6 tap c q).2.2.1)) (by first | rfl | (simp only [c48, c74, c103, ↓reduceIte, Bool.not_true, Bool.not_false, Bool.and_true, Bool.true_and, Bool.and_false, Bool.false_and, Bool.or_true, Bool.true_or, Bool.or_false, Bool.false_or, decide_true, decide_false, not_true_eq_false, not_false_eq_true, Bool.false_eq_true, Bool.true_eq_false]; done) | (simp only [c48, c74, c103, ↓reduceIte, Bool.not_true, Bool.not_false, Bool.and_true, Bool.true_and, Bool.and_false, Bool.false_and, Bool.or_true, Bool.true_or, Bool.or_false, Bool.false_or, decide_true, decide_false, not_true_eq_false, not_false_eq_true, Bool.false_eq_true, Bool.true_eq_false]; rfl) | (simp [c48, c74, c103]; done)) ?_
          exact J114
    · exact G.vret hX hQ dX4_treeItem_51 (by simp only [ms_ti, c48, ↓reduceIte, Bool.false_eq_true])
  refine G.ldc2 hX (v := 52) (by decide +kernel) dX4_treeItem_10 ?_
  refine G.lcmp hX dX4_treeItem_13 ?_
  refine G.c_ne hX (tgt := 21) (by decide) dX4_treeItem_14 (fun c14 => ?_) (fun c14 => ?_)
  · refine G.iconst hX (v := 0) (by decide) dX4_treeItem_21 ?_
    refine G.ve (y := .int (bI (decide (ms_wd tap c (ms_must tap c true q) = 52)))) (by first | rfl | (simp only [bI, c14, ↓reduceIte, Bool.not_true, Bool.not_false, Bool.and_true, Bool.true_and, Bool.and_false, Bool.false_and, Bool.or_true, Bool.true_or, Bool.or_false, Bool.false_or, decide_true, decide_false, not_true_eq_false, not_false_eq_true, Bool.false_eq_true, Bool.true_eq_false]; done) | (simp only [bI, c14, ↓reduceIte, Bool.not_true, Bool.not_false, Bool.and_true, Bool.true_and, Bool.and_false, Bool.false_and, Bool.or_true, Bool.true_or, Bool.or_false, Bool.false_or, decide_true, decide_false, not_true_eq_false, not_false_eq_true, Bool.false_eq_true, Bool.true_eq_false]; rfl) | (simp [bI, c14]; done)) ?_
    exact J22
  · refine G.iconst hX (v := 1) (by decide) dX4_treeItem_17 ?_
    refine G.goto hX (tgt := 22) (by decide) dX4_treeItem_18 ?_
    refine G.ve (y := .int (bI (decide (ms_wd tap c (ms_must tap c true q) = 52)))) (by first | rfl | (simp only [bI, c14, ↓reduceIte, Bool.not_true, Bool.not_false, Bool.and_true, Bool.true_and, Bool.and_false, Bool.false_and, Bool.or_true, Bool.true_or, Bool.or_false, Bool.false_or, decide_true, decide_false, not_true_eq_false, not_false_eq_true, Bool.false_eq_true, Bool.true_eq_false]; done) | (simp only [bI, c14, ↓reduceIte, Bool.not_true, Bool.not_false, Bool.and_true, Bool.true_and, Bool.and_false, Bool.false_and, Bool.or_true, Bool.true_or, Bool.or_false, Bool.false_or, decide_true, decide_false, not_true_eq_false, not_false_eq_true, Bool.false_eq_true, Bool.true_eq_false]; rfl) | (simp [bI, c14]; done)) ?_
    exact J22
abbrev rmX4_wordItem : Room := { frames := 5, cells := 0, slots := 0, locals := 113 }
theorem cp_X4_wordItem : CP yX4_wordItem RX4 wsX4_wordItem 3 0 rmX4_wordItem := ⟨⟨_, _, _, rfl⟩, rfl, rfl, by decide +kernel⟩
theorem inc_X4_wordItem_4 : ∀ w ∈ u_ws RX4 TX4 19, w ∈ wsX4_wordItem := by decide +kernel
set_option maxHeartbeats 4000000 in
set_option maxRecDepth 100000 in
theorem c_X4_wordItem (l : Launch) (E : EV) (q : TQ) (c : Nat) (o : Nat → Nat) (ik : Int32) (be : Int32) (so : Int32) (s : Nat → Int32) (tap : Nat → Int32) (h1 : OKq c q) (h2 : c ≤ 120) : CV l yX4_wordItem wsX4_wordItem rmX4_wordItem E [.ref (o 0)] [(o 0, moO o ik be so (nI c) (nI q.1) (nI q.2.1) q.2.2.1 (bI q.2.2.2)), (o 1, arI E 122 s), (o 7, arI E 120 tap)] [(o 0, moO o ik be so (nI c) (nI (((ms_wi tap c s q).2).1)) (nI (((ms_wi tap c s q).2).2.1)) (((ms_wi tap c s q).2).2.2.1) (bI (((ms_wi tap c s q).2).2.2.2))), (o 1, arI E 122 ((ms_wi tap c s q).1)), (o 7, arI E 120 tap)] := by
  refine CV.of (own := RX4) (cc := cX4_wordItem) (nL := 3) (rt := none) (by decide) rfl rfl (Nat.le_of_ble_eq_true rfl) (fun X hX hQ => ?_)
  show G E X 3 0 [(0, .ref (o 0))] [] [(o 0, moO o ik be so (nI c) (nI q.1) (nI q.2.1) q.2.2.1 (bI q.2.2.2)), (o 1, arI E 122 s), (o 7, arI E 120 tap)]
  refine G.aload_n hX 0 rfl dX4_wordItem_0 ?_
  refine G.iconst hX (v := 1) (by decide) dX4_wordItem_1 ?_
  refine G.vv hX (As := [.int 1]) (st := []) (wr := [(o 1, arI E 122 s)]) (wf := [(o 0, moO o ik be so (nI c) (nI ((ms_must tap c true q).1)) (nI ((ms_must tap c true q).2.1)) ((ms_must tap c true q).2.2.1) (bI ((ms_must tap c true q).2.2.2))), (o 1, arI E 122 s), (o 7, arI E 120 tap)]) (q0 := 0) (ci := 4) rfl rfl (c_X4_must _ E (b := true) (q := q) (c := c) (o := o) (ik := ik) (be := be) (so := so) (tap := tap) (h1 := by first | assumption | exact ok_must (by assumption) (by omega) | exact ok_num (by assumption) (by omega) | exact ok_num (ok_must (by assumption) (by omega)) (by omega) | exact ok_t2 (by assumption) (by omega) | exact ok_t3 (by assumption) (by omega) | exact ok_t4 (by assumption) (by omega) | exact ok_must (ok_t4 (by assumption) (by omega)) (by omega) | exact ok_w2 (by assumption) (by omega)) (h2 := by omega)) gX4_wordItem_X4_must cp_X4_must (by decide) [0, 2] [1] [1, 0, 2] ⟨rfl, rfl, by decide, rfl⟩ rfl rfl (Nat.le_of_ble_eq_true rfl) dX4_wordItem_2 ?_
  refine G.aload_n hX 0 rfl dX4_wordItem_5 ?_
  refine G.iconst hX (v := 0) (by decide) dX4_wordItem_6 ?_
  refine G.bipush hX (v := 7) (by decide) dX4_wordItem_7 ?_
  refine G.vv hX (As := [.int 0, .int 7]) (st := []) (wr := [(o 1, arI E 122 s)]) (wf := [(o 0, moO o ik be so (nI c) (nI ((ms_num tap c 0 7 (ms_must tap c true q)).1)) (nI ((ms_num tap c 0 7 (ms_must tap c true q)).2.1)) ((ms_num tap c 0 7 (ms_must tap c true q)).2.2.1) (bI ((ms_num tap c 0 7 (ms_must tap c true q)).2.2.2))), (o 1, arI E 122 s), (o 7, arI E 120 tap)]) (q0 := 0) (ci := 4) rfl rfl (c_X4_number _ E (lo := 0) (hi := 7) (q := ms_must tap c true q) (c := c) (o := o) (ik := ik) (be := be) (so := so) (tap := tap) (h1 := by first | assumption | exact ok_must (by assumption) (by omega) | exact ok_num (by assumption) (by omega) | exact ok_num (ok_must (by assumption) (by omega)) (by omega) | exact ok_t2 (by assumption) (by omega) | exact ok_t3 (by assumption) (by omega) | exact ok_t4 (by assumption) (by omega) | exact ok_must (ok_t4 (by assumption) (by omega)) (by omega) | exact ok_w2 (by assumption) (by omega)) (h2 := by omega) (h3 := by omega) (h4 := by omega)) gX4_wordItem_X4_number cp_X4_number (by decide) [0, 2] [1] [1, 0, 2] ⟨rfl, rfl, by decide, rfl⟩ rfl rfl (Nat.le_of_ble_eq_true rfl) dX4_wordItem_9 ?_
  refine G.we (ws' := [(o 0, moO o ik be so (nI c) (nI ((ms_w2 tap c q).1)) (nI ((ms_w2 tap c q).2.1)) ((ms_w2 tap c q).2.2.1) (bI ((ms_w2 tap c q).2.2.2))), (o 1, arI E 122 s), (o 7, arI E 120 tap)]) (by rfl) ?_
  refine G.aload_n hX 0 rfl dX4_wordItem_12 ?_
  refine G.get hX inc_X4_wordItem_4 0 rfl rfl 13 (by decide) (by decide +kernel) rfl dX4_wordItem_13 ?_
  refine G.istore_n hX (lv' := [(1, .int ((ms_w2 tap c q).2.2.1)), (0, .ref (o 0))]) rfl (by decide) rfl dX4_wordItem_16 ?_
  refine G.aload_n hX 1 rfl dX4_wordItem_17 ?_
  refine G.iconst hX (v := 0) (by decide) dX4_wordItem_18 ?_
  refine G.iconst hX (v := 1) (by decide) dX4_wordItem_19 ?_
  refine G.vv hX (As := [.int 0, .int 1]) (st := []) (wr := [(o 1, arI E 122 s)]) (wf := [(o 0, moO o ik be so (nI c) (nI ((ms_num tap c 0 1 (ms_w2 tap c q)).1)) (nI ((ms_num tap c 0 1 (ms_w2 tap c q)).2.1)) ((ms_num tap c 0 1 (ms_w2 tap c q)).2.2.1) (bI ((ms_num tap c 0 1 (ms_w2 tap c q)).2.2.2))), (o 1, arI E 122 s), (o 7, arI E 120 tap)]) (q0 := 0) (ci := 4) rfl rfl (c_X4_number _ E (lo := 0) (hi := 1) (q := ms_w2 tap c q) (c := c) (o := o) (ik := ik) (be := be) (so := so) (tap := tap) (h1 := by first | assumption | exact ok_must (by assumption) (by omega) | exact ok_num (by assumption) (by omega) | exact ok_num (ok_must (by assumption) (by omega)) (by omega) | exact ok_t2 (by assumption) (by omega) | exact ok_t3 (by assumption) (by omega) | exact ok_t4 (by assumption) (by omega) | exact ok_must (ok_t4 (by assumption) (by omega)) (by omega) | exact ok_w2 (by assumption) (by omega)) (h2 := by omega) (h3 := by omega) (h4 := by omega)) gX4_wordItem_X4_number cp_X4_number (by decide) [0, 2] [1] [1, 0, 2] ⟨rfl, rfl, by decide, rfl⟩ rfl rfl (Nat.le_of_ble_eq_true rfl) dX4_wordItem_20 ?_
  refine G.we (ws' := [(o 0, moO o ik be so (nI c) (nI ((ms_w3 tap c q).1)) (nI ((ms_w3 tap c q).2.1)) ((ms_w3 tap c q).2.2.1) (bI ((ms_w3 tap c q).2.2.2))), (o 1, arI E 122 s), (o 7, arI E 120 tap)]) (by rfl) ?_
  refine G.aload_n hX 1 rfl dX4_wordItem_23 ?_
  refine G.get hX inc_X4_wordItem_4 0 rfl rfl 14 (by decide) (by decide +kernel) rfl dX4_wordItem_24 ?_
  refine G.b_ne hX (tgt := 42) (by decide) dX4_wordItem_27 (fun c27 => ?_) (fun c27 => ?_)
  · exact G.vret hX hQ dX4_wordItem_42 (by simp only [ms_wi, c27, ↓reduceIte, Bool.false_eq_true])
  · obtain ⟨e1, e2, e3, e4⟩ := wi_ok c27
    refine G.aload_n hX 1 rfl dX4_wordItem_30 ?_
    refine G.aload_n hX 1 rfl dX4_wordItem_31 ?_
    refine G.get hX inc_X4_wordItem_4 0 rfl rfl 13 (by decide) (by decide +kernel) rfl dX4_wordItem_32 ?_
    refine G.ie (y := nI ((ms_w3 tap c q).2.2.1.toNatClampNeg)) (by exact e1) ?_
    refine G.iconst hX (v := 1) (by decide) dX4_wordItem_35 ?_
    refine G.iload_n hX 0 rfl dX4_wordItem_36 ?_
    refine G.ie (y := nI ((ms_w2 tap c q).2.2.1.toNatClampNeg)) (by exact e3) ?_
    refine G.ishl hX dX4_wordItem_37 ?_
    refine G.ie (y := nI (2 ^ (ms_w2 tap c q).2.2.1.toNatClampNeg)) (by exact shl1 _ (by omega)) ?_
    refine G.vi hX (As := [.int (nI ((ms_w3 tap c q).2.2.1.toNatClampNeg)), .int (nI (2 ^ (ms_w2 tap c q).2.2.1.toNatClampNeg))]) (st := []) (wr := [(o 7, arI E 120 tap)]) (wf := [(o 0, moO o ik be so (nI c) (nI ((ms_w3 tap c q).1)) (nI ((ms_w3 tap c q).2.1)) ((ms_w3 tap c q).2.2.1) (bI ((ms_w3 tap c q).2.2.2))), (o 1, arI E 122 ((ms_ln s ((ms_w3 tap c q).2.2.1.toNatClampNeg) (2 ^ (ms_w2 tap c q).2.2.1.toNatClampNeg)).1)), (o 7, arI E 120 tap)]) (q0 := 0) (ci := 4) rfl rfl (c_X4_learns _ E (t := (ms_w3 tap c q).2.2.1.toNatClampNeg) (k := 2 ^ (ms_w2 tap c q).2.2.1.toNatClampNeg) (o := o) (ik := ik) (be := be) (so := so) (tp := nI c) (fr := nI ((ms_w3 tap c q).1)) (tq := nI ((ms_w3 tap c q).2.1)) (vl := (ms_w3 tap c q).2.2.1) (wr := bI ((ms_w3 tap c q).2.2.2)) (s := s) (h1 := by omega) (h2 := Nat.lt_of_le_of_lt (Nat.pow_le_pow_right (by omega) e4) (by omega))) gX4_wordItem_X4_learns cp_X4_learns (by decide) [0, 1] [2] [1, 2, 0] ⟨rfl, rfl, by decide, rfl⟩ rfl rfl (Nat.le_of_ble_eq_true rfl) dX4_wordItem_38 ?_
    refine G.istore_n hX (lv' := [(2, .int (nI ((ms_ln s ((ms_w3 tap c q).2.2.1.toNatClampNeg) (2 ^ (ms_w2 tap c q).2.2.1.toNatClampNeg)).2))), (1, .int ((ms_w2 tap c q).2.2.1)), (0, .ref (o 0))]) rfl (by decide) rfl dX4_wordItem_41 ?_
    exact G.vret hX hQ dX4_wordItem_42 (by simp only [ms_wi, c27, ↓reduceIte, Bool.false_eq_true])
abbrev rmX4_item : Room := { frames := 6, cells := 0, slots := 0, locals := 135 }
theorem cp_X4_item : CP yX4_item RX4 wsX4_item 6 0 rmX4_item := ⟨⟨_, _, _, rfl⟩, rfl, rfl, by decide +kernel⟩
theorem inc_X4_item_4 : ∀ w ∈ u_ws RX4 TX4 19, w ∈ wsX4_item := by decide +kernel
set_option maxHeartbeats 4000000 in
set_option maxRecDepth 100000 in
theorem c_X4_item (l : Launch) (E : EV) (q : TQ) (c : Nat) (o : Nat → Nat) (ik : Int32) (be : Int32) (so : Int32) (s : Nat → Int32) (tap : Nat → Int32) (h1 : OKq c q) (h2 : c ≤ 120) : CV l yX4_item wsX4_item rmX4_item E [.ref (o 0)] [(o 0, moO o ik be so (nI c) (nI q.1) (nI q.2.1) q.2.2.1 (bI q.2.2.2)), (o 1, arI E 122 s), (o 7, arI E 120 tap)] [(o 0, moO o ik be so (nI c) (nI (((ms_item tap c s q).2).1)) (nI (((ms_item tap c s q).2).2.1)) (((ms_item tap c s q).2).2.2.1) (bI (((ms_item tap c s q).2).2.2.2))), (o 1, arI E 122 ((ms_item tap c s q).1)), (o 7, arI E 120 tap)] := by
  refine CV.of (own := RX4) (cc := cX4_item) (nL := 6) (rt := none) (by decide) rfl rfl (Nat.le_of_ble_eq_true rfl) (fun X hX hQ => ?_)
  show G E X 6 0 [(0, .ref (o 0))] [] [(o 0, moO o ik be so (nI c) (nI q.1) (nI q.2.1) q.2.2.1 (bI q.2.2.2)), (o 1, arI E 122 s), (o 7, arI E 120 tap)]
  refine G.aload_n hX 0 rfl dX4_item_0 ?_
  refine G.vi hX (As := []) (st := []) (wr := [(o 1, arI E 122 s)]) (wf := [(o 0, moO o ik be so (nI c) (nI q.1) (nI q.2.1) q.2.2.1 (bI q.2.2.2)), (o 1, arI E 122 s), (o 7, arI E 120 tap)]) (q0 := 0) (ci := 4) rfl rfl (c_X4_kindHere _ E (q := q) (c := c) (o := o) (ik := ik) (be := be) (so := so) (tap := tap) (h1 := by first | assumption | exact ok_must (by assumption) (by omega) | exact ok_num (by assumption) (by omega) | exact ok_num (ok_must (by assumption) (by omega)) (by omega) | exact ok_t2 (by assumption) (by omega) | exact ok_t3 (by assumption) (by omega) | exact ok_t4 (by assumption) (by omega) | exact ok_must (ok_t4 (by assumption) (by omega)) (by omega) | exact ok_w2 (by assumption) (by omega)) (h2 := by omega)) gX4_item_X4_kindHere cp_X4_kindHere (by decide) [0, 2] [1] [1, 0, 2] ⟨rfl, rfl, by decide, rfl⟩ rfl rfl (Nat.le_of_ble_eq_true rfl) dX4_item_1 ?_
  refine G.istore_n hX (lv' := [(1, .int (ms_kd (ms_wd tap c q))), (0, .ref (o 0))]) rfl (by decide) rfl dX4_item_4 ?_
  refine G.aload_n hX 1 rfl dX4_item_5 ?_
  refine G.vl hX (As := []) (st := []) (wr := [(o 1, arI E 122 s)]) (wf := [(o 0, moO o ik be so (nI c) (nI q.1) (nI q.2.1) q.2.2.1 (bI q.2.2.2)), (o 1, arI E 122 s), (o 7, arI E 120 tap)]) (q0 := 0) (ci := 4) rfl rfl (c_X4_word _ E (q := q) (c := c) (o := o) (ik := ik) (be := be) (so := so) (tap := tap) (h1 := by first | assumption | exact ok_must (by assumption) (by omega) | exact ok_num (by assumption) (by omega) | exact ok_num (ok_must (by assumption) (by omega)) (by omega) | exact ok_t2 (by assumption) (by omega) | exact ok_t3 (by assumption) (by omega) | exact ok_t4 (by assumption) (by omega) | exact ok_must (ok_t4 (by assumption) (by omega)) (by omega) | exact ok_w2 (by assumption) (by omega)) (h2 := by omega)) gX4_item_X4_word cp_X4_word (by decide) [0, 2] [1] [1, 0, 2] ⟨rfl, rfl, by decide, rfl⟩ rfl rfl (Nat.le_of_ble_eq_true rfl) dX4_item_6 ?_
  refine G.lstore_n hX (lv' := [(2, .long (ms_wd tap c q)), (1, .int (ms_kd (ms_wd tap c q))), (0, .ref (o 0))]) rfl (by decide) rfl dX4_item_9 ?_
  refine G.iload_n hX 1 rfl dX4_item_10 ?_
  refine G.if_lt hX (tgt := 22) (by decide) dX4_item_11 (fun c11 => ?_) (fun c11 => ?_)
  · refine G.lload_n hX 0 rfl dX4_item_22 ?_
    refine G.ldc2 hX (v := 769604) (by decide +kernel) dX4_item_23 ?_
    refine G.lcmp hX dX4_item_26 ?_
    refine G.c_ne hX (tgt := 37) (by decide) dX4_item_27 (fun c27 => ?_) (fun c27 => ?_)
    · have J50 : G E X 6 50 [(0, .ref (o 0)), (2, .long (ms_wd tap c q))] [.int (bI (decide (ms_wd tap c q = 431284)))] [(o 0, moO o ik be so (nI c) (nI q.1) (nI q.2.1) q.2.2.1 (bI q.2.2.2)), (o 1, arI E 122 s), (o 7, arI E 120 tap)] := by
        refine G.istore hX (lv' := [(4, .int (bI (decide (ms_wd tap c q = 431284)))), (0, .ref (o 0)), (2, .long (ms_wd tap c q))]) (by decide) rfl dX4_item_50 ?_
        have J71 : G E X 6 71 [(0, .ref (o 0)), (4, .int (bI (decide (ms_wd tap c q = 431284))))] [.int (bI (decide (ms_wd tap c q = 431284) || decide (ms_wd tap c q = 3764))), .ref (o 0)] [(o 0, moO o ik be so (nI c) (nI q.1) (nI q.2.1) q.2.2.1 (bI q.2.2.2)), (o 1, arI E 122 s), (o 7, arI E 120 tap)] := by
          refine G.vv hX (As := [.int (bI (decide (ms_wd tap c q = 431284) || decide (ms_wd tap c q = 3764)))]) (st := []) (wr := [(o 1, arI E 122 s)]) (wf := [(o 0, moO o ik be so (nI c) (nI ((ms_must tap c (decide (ms_wd tap c q = 431284) || decide (ms_wd tap c q = 3764)) q).1)) (nI ((ms_must tap c (decide (ms_wd tap c q = 431284) || decide (ms_wd tap c q = 3764)) q).2.1)) ((ms_must tap c (decide (ms_wd tap c q = 431284) || decide (ms_wd tap c q = 3764)) q).2.2.1) (bI ((ms_must tap c (decide (ms_wd tap c q = 431284) || decide (ms_wd tap c q = 3764)) q).2.2.2))), (o 1, arI E 122 s), (o 7, arI E 120 tap)]) (q0 := 0) (ci := 4) rfl rfl (c_X4_must _ E (b := decide (ms_wd tap c q = 431284) || decide (ms_wd tap c q = 3764)) (q := q) (c := c) (o := o) (ik := ik) (be := be) (so := so) (tap := tap) (h1 := by first | assumption | exact ok_must (by assumption) (by omega) | exact ok_num (by assumption) (by omega) | exact ok_num (ok_must (by assumption) (by omega)) (by omega) | exact ok_t2 (by assumption) (by omega) | exact ok_t3 (by assumption) (by omega) | exact ok_t4 (by assumption) (by omega) | exact ok_must (ok_t4 (by assumption) (by omega)) (by omega) | exact ok_w2 (by assumption) (by omega)) (h2 := by omega)) gX4_item_X4_must cp_X4_must (by decide) [0, 2] [1] [1, 0, 2] ⟨rfl, rfl, by decide, rfl⟩ rfl rfl (Nat.le_of_ble_eq_true rfl) dX4_item_71 ?_
          refine G.aload_n hX 0 rfl dX4_item_74 ?_
          refine G.iconst hX (v := 0) (by decide) dX4_item_75 ?_
          refine G.iconst hX (v := 5) (by decide) dX4_item_76 ?_
          refine G.vv hX (As := [.int 0, .int 5]) (st := []) (wr := [(o 1, arI E 122 s)]) (wf := [(o 0, moO o ik be so (nI c) (nI ((ms_num tap c 0 5 (ms_must tap c (decide (ms_wd tap c q = 431284) || decide (ms_wd tap c q = 3764)) q)).1)) (nI ((ms_num tap c 0 5 (ms_must tap c (decide (ms_wd tap c q = 431284) || decide (ms_wd tap c q = 3764)) q)).2.1)) ((ms_num tap c 0 5 (ms_must tap c (decide (ms_wd tap c q = 431284) || decide (ms_wd tap c q = 3764)) q)).2.2.1) (bI ((ms_num tap c 0 5 (ms_must tap c (decide (ms_wd tap c q = 431284) || decide (ms_wd tap c q = 3764)) q)).2.2.2))), (o 1, arI E 122 s), (o 7, arI E 120 tap)]) (q0 := 0) (ci := 4) rfl rfl (c_X4_number _ E (lo := 0) (hi := 5) (q := ms_must tap c (decide (ms_wd tap c q = 431284) || decide (ms_wd tap c q = 3764)) q) (c := c) (o := o) (ik := ik) (be := be) (so := so) (tap := tap) (h1 := by first | assumption | exact ok_must (by assumption) (by omega) | exact ok_num (by assumption) (by omega) | exact ok_num (ok_must (by assumption) (by omega)) (by omega) | exact ok_t2 (by assumption) (by omega) | exact ok_t3 (by assumption) (by omega) | exact ok_t4 (by assumption) (by omega) | exact ok_must (ok_t4 (by assumption) (by omega)) (by omega) | exact ok_w2 (by assumption) (by omega)) (h2 := by omega) (h3 := by omega) (h4 := by omega)) gX4_item_X4_number cp_X4_number (by decide) [0, 2] [1] [1, 0, 2] ⟨rfl, rfl, by decide, rfl⟩ rfl rfl (Nat.le_of_ble_eq_true rfl) dX4_item_77 ?_
          refine G.we (ws' := [(o 0, moO o ik be so (nI c) (nI ((ms_m2 tap c q).1)) (nI ((ms_m2 tap c q).2.1)) ((ms_m2 tap c q).2.2.1) (bI ((ms_m2 tap c q).2.2.2))), (o 1, arI E 122 s), (o 7, arI E 120 tap)]) (by rfl) ?_
          refine G.aload_n hX 0 rfl dX4_item_80 ?_
          refine G.get hX inc_X4_item_4 0 rfl rfl 14 (by decide) (by decide +kernel) rfl dX4_item_81 ?_
          refine G.b_ne hX (tgt := 99) (by decide) dX4_item_84 (fun c84 => ?_) (fun c84 => ?_)
          · exact G.vret hX hQ dX4_item_99 (by first | (simp only [ms_item, ms_mi, c11, c27, c84, ↓reduceIte, Bool.false_eq_true]; done) | (have e9 : ms_kd 769604 < 0 := (by decide); simp only [ms_item, c11, c27, c84, e9, ↓reduceIte]; done))
          · obtain ⟨e1, e2⟩ := m2_ok c84
            refine G.aload_n hX 0 rfl dX4_item_87 ?_
            refine G.aload_n hX 0 rfl dX4_item_88 ?_
            refine G.get hX inc_X4_item_4 0 rfl rfl 13 (by decide) (by decide +kernel) rfl dX4_item_89 ?_
            refine G.ie (y := nI ((ms_m2 tap c q).2.2.1.toNatClampNeg)) (by exact e1) ?_
            refine G.iload hX 1 rfl dX4_item_92 ?_
            refine G.vi hX (As := [.int (nI ((ms_m2 tap c q).2.2.1.toNatClampNeg)), .int (bI (decide (ms_wd tap c q = 431284)))]) (st := []) (wr := [(o 7, arI E 120 tap)]) (wf := [(o 0, moO o ik be so (nI c) (nI ((ms_m2 tap c q).1)) (nI ((ms_m2 tap c q).2.1)) ((ms_m2 tap c q).2.2.1) (bI ((ms_m2 tap c q).2.2.2))), (o 1, arI E 122 (ms_meets s ((ms_m2 tap c q).2.2.1.toNatClampNeg) (decide (ms_wd tap c q = 431284)))), (o 7, arI E 120 tap)]) (q0 := 0) (ci := 4) rfl rfl (c_X4_meets _ E (pl := (ms_m2 tap c q).2.2.1.toNatClampNeg) (b := decide (ms_wd tap c q = 431284)) (o := o) (ik := ik) (be := be) (so := so) (tp := nI c) (fr := nI ((ms_m2 tap c q).1)) (tq := nI ((ms_m2 tap c q).2.1)) (vl := (ms_m2 tap c q).2.2.1) (wr := bI ((ms_m2 tap c q).2.2.2)) (s := s) (h1 := by omega)) gX4_item_X4_meets cp_X4_meets (by decide) [0, 1] [2] [1, 2, 0] ⟨rfl, rfl, by decide, rfl⟩ rfl rfl (Nat.le_of_ble_eq_true rfl) dX4_item_94 ?_
            refine G.istore hX (lv' := [(5, .int (bI (ms_met s ((ms_m2 tap c q).2.2.1.toNatClampNeg)))), (0, .ref (o 0)), (4, .int (bI (decide (ms_wd tap c q = 431284))))]) (by decide) rfl dX4_item_97 ?_
            exact G.vret hX hQ dX4_item_99 (by first | (simp only [ms_item, ms_mi, c11, c27, c84, ↓reduceIte, Bool.false_eq_true]; done) | (have e9 : ms_kd 769604 < 0 := (by decide); simp only [ms_item, c11, c27, c84, e9, ↓reduceIte]; done))
        refine G.aload_n hX 1 rfl dX4_item_52 ?_
        refine G.iload hX 0 rfl dX4_item_53 ?_
        refine G.b_ne hX (tgt := 66) (by decide) dX4_item_55 (fun c55 => ?_) (fun c55 => ?_)
        · refine G.iconst hX (v := 1) (by decide) dX4_item_66 ?_
          refine G.goto hX (tgt := 71) (by decide) dX4_item_67 ?_
          refine G.lvp (lv' := [(0, .ref (o 0)), (4, .int (bI (decide (ms_wd tap c q = 431284))))]) [1, 0] rfl ?_
          refine G.ve (y := .int (bI (decide (ms_wd tap c q = 431284) || decide (ms_wd tap c q = 3764)))) (by first | rfl | (simp only [bI, Bool.or_eq_true, decide_eq_true_eq, decide_eq_false_iff_not, c11, c27, c55, ↓reduceIte, Bool.not_true, Bool.not_false, Bool.and_true, Bool.true_and, Bool.and_false, Bool.false_and, Bool.or_true, Bool.true_or, Bool.or_false, Bool.false_or, decide_true, decide_false, not_true_eq_false, not_false_eq_true, Bool.false_eq_true, Bool.true_eq_false]; done) | (simp only [bI, Bool.or_eq_true, decide_eq_true_eq, decide_eq_false_iff_not, c11, c27, c55, ↓reduceIte, Bool.not_true, Bool.not_false, Bool.and_true, Bool.true_and, Bool.and_false, Bool.false_and, Bool.or_true, Bool.true_or, Bool.or_false, Bool.false_or, decide_true, decide_false, not_true_eq_false, not_false_eq_true, Bool.false_eq_true, Bool.true_eq_false]; rfl) | (simp [bI, Bool.or_eq_true, decide_eq_true_eq, decide_eq_false_iff_not, c11, c27, c55]; done)) ?_
          exact J71
        · refine G.lload_n hX 2 rfl dX4_item_58 ?_
          refine G.ldc2 hX (v := 3764) (by decide +kernel) dX4_item_59 ?_
          refine G.lcmp hX dX4_item_62 ?_
          refine G.c_ne hX (tgt := 70) (by decide) dX4_item_63 (fun c63 => ?_) (fun c63 => ?_)
          · refine G.iconst hX (v := 0) (by decide) dX4_item_70 ?_
            refine G.lvp (lv' := [(0, .ref (o 0)), (4, .int (bI (decide (ms_wd tap c q = 431284))))]) [1, 0] rfl ?_
            refine G.ve (y := .int (bI (decide (ms_wd tap c q = 431284) || decide (ms_wd tap c q = 3764)))) (by first | rfl | (simp only [bI, Bool.or_eq_true, decide_eq_true_eq, decide_eq_false_iff_not, c11, c27, c55, c63, ↓reduceIte, Bool.not_true, Bool.not_false, Bool.and_true, Bool.true_and, Bool.and_false, Bool.false_and, Bool.or_true, Bool.true_or, Bool.or_false, Bool.false_or, decide_true, decide_false, not_true_eq_false, not_false_eq_true, Bool.false_eq_true, Bool.true_eq_false]; done) | (simp only [bI, Bool.or_eq_true, decide_eq_true_eq, decide_eq_false_iff_not, c11, c27, c55, c63, ↓reduceIte, Bool.not_true, Bool.not_false, Bool.and_true, Bool.true_and, Bool.and_false, Bool.false_and, Bool.or_true, Bool.true_or, Bool.or_false, Bool.false_or, decide_true, decide_false, not_true_eq_false, not_false_eq_true, Bool.false_eq_true, Bool.true_eq_false]; rfl) | (simp [bI, Bool.or_eq_true, decide_eq_true_eq, decide_eq_false_iff_not, c11, c27, c55, c63]; done)) ?_
            exact J71
          · refine G.iconst hX (v := 1) (by decide) dX4_item_66 ?_
            refine G.goto hX (tgt := 71) (by decide) dX4_item_67 ?_
            refine G.lvp (lv' := [(0, .ref (o 0)), (4, .int (bI (decide (ms_wd tap c q = 431284))))]) [1, 0] rfl ?_
            refine G.ve (y := .int (bI (decide (ms_wd tap c q = 431284) || decide (ms_wd tap c q = 3764)))) (by first | rfl | (simp only [bI, Bool.or_eq_true, decide_eq_true_eq, decide_eq_false_iff_not, c11, c27, c55, c63, ↓reduceIte, Bool.not_true, Bool.not_false, Bool.and_true, Bool.true_and, Bool.and_false, Bool.false_and, Bool.or_true, Bool.true_or, Bool.or_false, Bool.false_or, decide_true, decide_false, not_true_eq_false, not_false_eq_true, Bool.false_eq_true, Bool.true_eq_false]; done) | (simp only [bI, Bool.or_eq_true, decide_eq_true_eq, decide_eq_false_iff_not, c11, c27, c55, c63, ↓reduceIte, Bool.not_true, Bool.not_false, Bool.and_true, Bool.true_and, Bool.and_false, Bool.false_and, Bool.or_true, Bool.true_or, Bool.or_false, Bool.false_or, decide_true, decide_false, not_true_eq_false, not_false_eq_true, Bool.false_eq_true, Bool.true_eq_false]; rfl) | (simp [bI, Bool.or_eq_true, decide_eq_true_eq, decide_eq_false_iff_not, c11, c27, c55, c63]; done)) ?_
            exact J71
      refine G.lload_n hX 0 rfl dX4_item_37 ?_
      refine G.ldc2 hX (v := 431284) (by decide +kernel) dX4_item_38 ?_
      refine G.lcmp hX dX4_item_41 ?_
      refine G.c_ne hX (tgt := 49) (by decide) dX4_item_42 (fun c42 => ?_) (fun c42 => ?_)
      · refine G.iconst hX (v := 0) (by decide) dX4_item_49 ?_
        refine G.lvp (lv' := [(0, .ref (o 0)), (2, .long (ms_wd tap c q))]) [2, 0] rfl ?_
        refine G.ie (y := bI (decide (ms_wd tap c q = 431284))) (by first | rfl | (simp only [bI, c11, c27, c42, ↓reduceIte, Bool.not_true, Bool.not_false, Bool.and_true, Bool.true_and, Bool.and_false, Bool.false_and, Bool.or_true, Bool.true_or, Bool.or_false, Bool.false_or, decide_true, decide_false, not_true_eq_false, not_false_eq_true, Bool.false_eq_true, Bool.true_eq_false]; done) | (simp only [bI, c11, c27, c42, ↓reduceIte, Bool.not_true, Bool.not_false, Bool.and_true, Bool.true_and, Bool.and_false, Bool.false_and, Bool.or_true, Bool.true_or, Bool.or_false, Bool.false_or, decide_true, decide_false, not_true_eq_false, not_false_eq_true, Bool.false_eq_true, Bool.true_eq_false]; rfl) | (simp [bI, c11, c27, c42]; done)) ?_
        exact J50
      · refine G.iconst hX (v := 1) (by decide) dX4_item_45 ?_
        refine G.goto hX (tgt := 50) (by decide) dX4_item_46 ?_
        refine G.lvp (lv' := [(0, .ref (o 0)), (2, .long (ms_wd tap c q))]) [2, 0] rfl ?_
        refine G.ie (y := bI (decide (ms_wd tap c q = 431284))) (by first | rfl | (simp only [bI, c11, c27, c42, ↓reduceIte, Bool.not_true, Bool.not_false, Bool.and_true, Bool.true_and, Bool.and_false, Bool.false_and, Bool.or_true, Bool.true_or, Bool.or_false, Bool.false_or, decide_true, decide_false, not_true_eq_false, not_false_eq_true, Bool.false_eq_true, Bool.true_eq_false]; done) | (simp only [bI, c11, c27, c42, ↓reduceIte, Bool.not_true, Bool.not_false, Bool.and_true, Bool.true_and, Bool.and_false, Bool.false_and, Bool.or_true, Bool.true_or, Bool.or_false, Bool.false_or, decide_true, decide_false, not_true_eq_false, not_false_eq_true, Bool.false_eq_true, Bool.true_eq_false]; rfl) | (simp [bI, c11, c27, c42]; done)) ?_
        exact J50
    · refine G.aload_n hX 2 rfl dX4_item_30 ?_
      refine G.vv hX (As := []) (st := []) (wr := []) (wf := [(o 0, moO o ik be so (nI c) (nI (((ms_wi tap c s q).2).1)) (nI (((ms_wi tap c s q).2).2.1)) (((ms_wi tap c s q).2).2.2.1) (bI (((ms_wi tap c s q).2).2.2.2))), (o 1, arI E 122 ((ms_wi tap c s q).1)), (o 7, arI E 120 tap)]) (q0 := 0) (ci := 4) rfl rfl (c_X4_wordItem _ E (q := q) (c := c) (o := o) (ik := ik) (be := be) (so := so) (s := s) (tap := tap) (h1 := by first | assumption | exact ok_must (by assumption) (by omega) | exact ok_num (by assumption) (by omega) | exact ok_num (ok_must (by assumption) (by omega)) (by omega) | exact ok_t2 (by assumption) (by omega) | exact ok_t3 (by assumption) (by omega) | exact ok_t4 (by assumption) (by omega) | exact ok_must (ok_t4 (by assumption) (by omega)) (by omega) | exact ok_w2 (by assumption) (by omega)) (h2 := by omega)) gX4_item_X4_wordItem cp_X4_wordItem (by decide) [0, 1, 2] [] [0, 1, 2] ⟨rfl, rfl, by decide, rfl⟩ rfl rfl (Nat.le_of_ble_eq_true rfl) dX4_item_31 ?_
      refine G.goto hX (tgt := 99) (by decide) dX4_item_34 ?_
      exact G.vret hX hQ dX4_item_99 (by first | (simp only [ms_item, ms_mi, c11, c27, ↓reduceIte, Bool.false_eq_true]; done) | (have e9 : ms_kd 769604 < 0 := (by decide); simp only [ms_item, c11, c27, e9, ↓reduceIte]; done))
  · refine G.aload_n hX 2 rfl dX4_item_14 ?_
    refine G.iload_n hX 1 rfl dX4_item_15 ?_
    refine G.vv hX (As := [.int (ms_kd (ms_wd tap c q))]) (st := []) (wr := []) (wf := [(o 0, moO o ik be so (nI c) (nI (((ms_ti tap c s (ms_kd (ms_wd tap c q)) q).2).1)) (nI (((ms_ti tap c s (ms_kd (ms_wd tap c q)) q).2).2.1)) (((ms_ti tap c s (ms_kd (ms_wd tap c q)) q).2).2.2.1) (bI (((ms_ti tap c s (ms_kd (ms_wd tap c q)) q).2).2.2.2))), (o 1, arI E 122 ((ms_ti tap c s (ms_kd (ms_wd tap c q)) q).1)), (o 7, arI E 120 tap)]) (q0 := 0) (ci := 4) rfl rfl (c_X4_treeItem _ E (kd := ms_kd (ms_wd tap c q)) (q := q) (c := c) (o := o) (ik := ik) (be := be) (so := so) (s := s) (tap := tap) (h1 := by first | assumption | exact ok_must (by assumption) (by omega) | exact ok_num (by assumption) (by omega) | exact ok_num (ok_must (by assumption) (by omega)) (by omega) | exact ok_t2 (by assumption) (by omega) | exact ok_t3 (by assumption) (by omega) | exact ok_t4 (by assumption) (by omega) | exact ok_must (ok_t4 (by assumption) (by omega)) (by omega) | exact ok_w2 (by assumption) (by omega)) (h2 := by omega)) gX4_item_X4_treeItem cp_X4_treeItem (by decide) [0, 1, 2] [] [0, 1, 2] ⟨rfl, rfl, by decide, rfl⟩ rfl rfl (Nat.le_of_ble_eq_true rfl) dX4_item_16 ?_
    refine G.goto hX (tgt := 99) (by decide) dX4_item_19 ?_
    exact G.vret hX hQ dX4_item_99 (by first | (simp only [ms_item, ms_mi, c11, ↓reduceIte, Bool.false_eq_true]; done) | (have e9 : ms_kd 769604 < 0 := (by decide); simp only [ms_item, c11, e9, ↓reduceIte]; done))
abbrev rmX4_avenue : Room := { frames := 7, cells := 0, slots := 0, locals := 160 }
theorem cp_X4_avenue : CP yX4_avenue RX4 wsX4_avenue 2 0 rmX4_avenue := ⟨⟨_, _, _, rfl⟩, rfl, rfl, by decide +kernel⟩
theorem inc_X4_avenue_4 : ∀ w ∈ u_ws RX4 TX4 19, w ∈ wsX4_avenue := by decide +kernel
set_option maxHeartbeats 4000000 in
set_option maxRecDepth 100000 in
theorem c_X4_avenueno (l : Launch) (E : EV) (c : Nat) (rr : (Nat → Int32) × TQ × Nat) (o : Nat → Nat) (ik : Int32) (be : Int32) (so : Int32) (fr : Int32) (tq : Int32) (vl : Int32) (wr : Int32) (s : Nat → Int32) (ot : Nat → Int32) (tap : Nat → Int32) (h1 : c ≤ 120) (h2 : avW c rr = true) (h3 : ms_av tap c s vl = rr) : CI l yX4_avenue wsX4_avenue rmX4_avenue E [.ref (o 0)] [(o 0, moO o ik be so (nI c) fr tq vl wr), (o 1, arI E 122 s), (o 3, arI E 122 ot), (o 7, arI E 120 tap)] [(o 0, moO o ik be so 0 (nI rr.2.1.1) (nI rr.2.1.2.1) rr.2.1.2.2.1 1), (o 1, arI E 122 s), (o 3, arI E 122 s), (o 7, arI E 120 tap)] (-1 - nI rr.2.1.1) := by
  have hrk := av_ok (tap := tap) (s := s) (vl := vl) h1
  rw [h3] at hrk
  have hrk1 := hrk.1
  have hrk2 := hrk.2.1
  refine CI.of (own := RX4) (cc := cX4_avenue) (nL := 2) (rt := (some .int)) (by decide) rfl rfl (Nat.le_of_ble_eq_true rfl) (fun X hX hQ => ?_)
  show G E X 2 0 [(0, .ref (o 0))] [] [(o 0, moO o ik be so (nI c) fr tq vl wr), (o 1, arI E 122 s), (o 3, arI E 122 ot), (o 7, arI E 120 tap)]
  refine G.aload_n hX 0 rfl dX4_avenue_0 ?_
  refine G.vv hX (As := []) (st := []) (wr := [(o 7, arI E 120 tap)]) (wf := [(o 0, moO o ik be so (nI c) fr tq vl wr), (o 1, arI E 122 s), (o 3, arI E 122 s), (o 7, arI E 120 tap)]) (q0 := 0) (ci := 4) rfl rfl (c_X4_saves _ E (o := o) (ik := ik) (be := be) (so := so) (tp := nI c) (fr := fr) (tq := tq) (vl := vl) (wr := wr) (s := s) (ot := ot) ) gX4_avenue_X4_saves cp_X4_saves (by decide) [0, 1, 2] [3] [1, 2, 3, 0] ⟨rfl, rfl, by decide, rfl⟩ rfl rfl (Nat.le_of_ble_eq_true rfl) dX4_avenue_1 ?_
  refine G.aload_n hX 0 rfl dX4_avenue_4 ?_
  refine G.iconst hX (v := 0) (by decide) dX4_avenue_5 ?_
  refine G.put hX (ws' := [(o 0, moO o ik be so (nI c) fr tq vl 0), (o 1, arI E 122 s), (o 3, arI E 122 s), (o 7, arI E 120 tap)]) inc_X4_avenue_4 tyX4 tyX4_ok nmX4 0 rfl rfl 14 (by decide) (by decide +kernel) rfl (tyX4_ok 14 (by decide)) rfl rfl (Nat.le_of_ble_eq_true rfl) rfl rfl dX4_avenue_6 ?_
  refine G.aload_n hX 0 rfl dX4_avenue_9 ?_
  refine G.iconst hX (v := 0) (by decide) dX4_avenue_10 ?_
  refine G.put hX (ws' := [(o 0, moO o ik be so (nI c) fr 0 vl 0), (o 1, arI E 122 s), (o 3, arI E 122 s), (o 7, arI E 120 tap)]) inc_X4_avenue_4 tyX4 tyX4_ok nmX4 0 rfl rfl 12 (by decide) (by decide +kernel) rfl (tyX4_ok 12 (by decide)) rfl rfl (Nat.le_of_ble_eq_true rfl) rfl rfl dX4_avenue_11 ?_
  refine G.aload_n hX 0 rfl dX4_avenue_14 ?_
  refine G.vv hX (As := []) (st := []) (wr := [(o 1, arI E 122 s), (o 3, arI E 122 s)]) (wf := [(o 0, moO o ik be so (nI c) (nI (ms_fr tap c 0)) (nI (ms_to tap c (ms_fr tap c 0))) vl 0), (o 1, arI E 122 s), (o 3, arI E 122 s), (o 7, arI E 120 tap)]) (q0 := 0) (ci := 4) rfl rfl (c_X4_token _ E (c := c) (k := 0) (o := o) (ik := ik) (be := be) (so := so) (fr := fr) (vl := vl) (wr := 0) (tap := tap) (h1 := by omega) (h2 := by omega)) gX4_avenue_X4_token cp_X4_token (by decide) [0, 3] [1, 2] [2, 0, 1, 3] ⟨rfl, rfl, by decide, rfl⟩ rfl rfl (Nat.le_of_ble_eq_true rfl) dX4_avenue_15 ?_
  refine G.we (ws' := [(o 0, moO o ik be so (nI c) (nI ((ms_tok tap c 0 vl).1)) (nI ((ms_tok tap c 0 vl).2.1)) ((ms_tok tap c 0 vl).2.2.1) (bI ((ms_tok tap c 0 vl).2.2.2))), (o 1, arI E 122 s), (o 3, arI E 122 s), (o 7, arI E 120 tap)]) (by rfl) ?_
  refine G.iconst hX (v := 1) (by decide) dX4_avenue_18 ?_
  refine G.istore_n hX (lv' := [(1, .int 1), (0, .ref (o 0))]) rfl (by decide) rfl dX4_avenue_19 ?_
  refine G.aload_n hX 1 rfl dX4_avenue_20 ?_
  refine G.vv hX (As := []) (st := []) (wr := [(o 3, arI E 122 s)]) (wf := [(o 0, moO o ik be so (nI c) (nI (((ms_item tap c s (ms_tok tap c 0 vl)).2).1)) (nI (((ms_item tap c s (ms_tok tap c 0 vl)).2).2.1)) (((ms_item tap c s (ms_tok tap c 0 vl)).2).2.2.1) (bI (((ms_item tap c s (ms_tok tap c 0 vl)).2).2.2.2))), (o 1, arI E 122 ((ms_item tap c s (ms_tok tap c 0 vl)).1)), (o 3, arI E 122 s), (o 7, arI E 120 tap)]) (q0 := 0) (ci := 4) rfl rfl (c_X4_item _ E (q := ms_tok tap c 0 vl) (c := c) (o := o) (ik := ik) (be := be) (so := so) (s := s) (tap := tap) (h1 := ok_tok (by omega) h1) (h2 := by omega)) gX4_avenue_X4_item cp_X4_item (by decide) [0, 1, 3] [2] [1, 2, 0, 3] ⟨rfl, rfl, by decide, rfl⟩ rfl rfl (Nat.le_of_ble_eq_true rfl) dX4_avenue_21 ?_
  have L24 : ∀ (n : Nat) (kk : Nat) (s1 : Nat → Int32) (q1 : TQ) (nn : Nat), OKq c q1 → 121 ≤ kk + q1.1 → rr = ms_avL tap c kk s1 q1 nn → kk + 1 ≤ n → G E X 2 24 [(0, .ref (o 0)), (1, .int (nI nn))] [] [(o 0, moO o ik be so (nI c) (nI q1.1) (nI q1.2.1) q1.2.2.1 (bI q1.2.2.2)), (o 1, arI E 122 s1), (o 3, arI E 122 s), (o 7, arI E 120 tap)] := by
    intro n
    induction n with
    | zero => intro kk s1 q1 nn hl24_0 hl24_1 hl24_2 hl24_3; exact absurd hl24_3 (by omega)
    | succ n ih24 =>
      intro kk s1 q1 nn hl24_0 hl24_1 hl24_2 hl24_3
      have J59 : G E X 2 59 [(0, .ref (o 0)), (1, .int (nI rr.2.2))] [] [(o 0, moO o ik be so (nI c) (nI rr.2.1.1) (nI rr.2.1.2.1) rr.2.1.2.2.1 (bI rr.2.1.2.2.2)), (o 1, arI E 122 rr.1), (o 3, arI E 122 s), (o 7, arI E 120 tap)] := by
        refine G.aload_n hX 0 rfl dX4_avenue_59 ?_
        have J83 : G E X 2 83 [(0, .ref (o 0)), (1, .int (nI rr.2.2))] [.int (bI (avW c rr)), .ref (o 0)] [(o 0, moO o ik be so (nI c) (nI rr.2.1.1) (nI rr.2.1.2.1) rr.2.1.2.2.1 (bI rr.2.1.2.2.2)), (o 1, arI E 122 rr.1), (o 3, arI E 122 s), (o 7, arI E 120 tap)] := by
          refine G.put hX (ws' := [(o 0, moO o ik be so (nI c) (nI rr.2.1.1) (nI rr.2.1.2.1) rr.2.1.2.2.1 (bI (avW c rr))), (o 1, arI E 122 rr.1), (o 3, arI E 122 s), (o 7, arI E 120 tap)]) inc_X4_avenue_4 tyX4 tyX4_ok nmX4 0 rfl rfl 14 (by decide) (by decide +kernel) rfl (tyX4_ok 14 (by decide)) (bI_z _) (bI_f _) (Nat.le_of_ble_eq_true rfl) rfl rfl dX4_avenue_83 ?_
          refine G.we (ws' := [(o 0, moO o ik be so (nI c) (nI rr.2.1.1) (nI rr.2.1.2.1) rr.2.1.2.2.1 1), (o 1, arI E 122 rr.1), (o 3, arI E 122 s), (o 7, arI E 120 tap)]) (by rw [h2]; rfl) ?_
          refine G.aload_n hX 0 rfl dX4_avenue_86 ?_
          refine G.get hX inc_X4_avenue_4 0 rfl rfl 14 (by decide) (by decide +kernel) rfl dX4_avenue_87 ?_
          refine G.if_eq hX (tgt := 97) (by decide) dX4_avenue_90 (fun c90 => absurd c90 (by decide)) (fun _ => ?_)
          refine G.aload_n hX 0 rfl dX4_avenue_93 ?_
          refine G.vv hX (As := []) (st := []) (wr := [(o 7, arI E 120 tap)]) (wf := [(o 0, moO o ik be so (nI c) (nI rr.2.1.1) (nI rr.2.1.2.1) rr.2.1.2.2.1 1), (o 1, arI E 122 s), (o 3, arI E 122 s), (o 7, arI E 120 tap)]) (q0 := 0) (ci := 4) rfl rfl (c_X4_putsBack _ E (o := o) (ik := ik) (be := be) (so := so) (tp := nI c) (fr := nI rr.2.1.1) (tq := nI rr.2.1.2.1) (vl := rr.2.1.2.2.1) (wr := 1) (s := rr.1) (ot := s) ) gX4_avenue_X4_putsBack cp_X4_putsBack (by decide) [0, 1, 2] [3] [1, 2, 3, 0] ⟨rfl, rfl, by decide, rfl⟩ rfl rfl (Nat.le_of_ble_eq_true rfl) dX4_avenue_94 ?_
          refine G.aload_n hX 0 rfl dX4_avenue_97 ?_
          refine G.iconst hX (v := 0) (by decide) dX4_avenue_98 ?_
          refine G.put hX (ws' := [(o 0, moO o ik be so 0 (nI rr.2.1.1) (nI rr.2.1.2.1) rr.2.1.2.2.1 1), (o 1, arI E 122 s), (o 3, arI E 122 s), (o 7, arI E 120 tap)]) inc_X4_avenue_4 tyX4 tyX4_ok nmX4 0 rfl rfl 10 (by decide) (by decide +kernel) rfl (tyX4_ok 10 (by decide)) rfl rfl (Nat.le_of_ble_eq_true rfl) rfl rfl dX4_avenue_99 ?_
          refine G.aload_n hX 0 rfl dX4_avenue_102 ?_
          refine G.get hX inc_X4_avenue_4 0 rfl rfl 14 (by decide) (by decide +kernel) rfl dX4_avenue_103 ?_
          refine G.if_eq hX (tgt := 118) (by decide) dX4_avenue_106 (fun c106 => absurd c106 (by decide)) (fun _ => ?_)
          refine G.iconst hX (v := -1) (by decide) dX4_avenue_109 ?_
          refine G.aload_n hX 0 rfl dX4_avenue_110 ?_
          refine G.get hX inc_X4_avenue_4 0 rfl rfl 11 (by decide) (by decide +kernel) rfl dX4_avenue_111 ?_
          refine G.isub hX dX4_avenue_114 ?_
          refine G.goto hX (tgt := 119) (by decide) dX4_avenue_115 ?_
          exact G.iret hX hQ dX4_avenue_119 (by first | rfl | (simp only [↓reduceIte, Bool.not_true, Bool.not_false, Bool.and_true, Bool.true_and, Bool.and_false, Bool.false_and, Bool.or_true, Bool.true_or, Bool.or_false, Bool.false_or, decide_true, decide_false, not_true_eq_false, not_false_eq_true, Bool.false_eq_true, Bool.true_eq_false]; done) | (simp only [↓reduceIte, Bool.not_true, Bool.not_false, Bool.and_true, Bool.true_and, Bool.and_false, Bool.false_and, Bool.or_true, Bool.true_or, Bool.or_false, Bool.false_or, decide_true, decide_false, not_true_eq_false, not_false_eq_true, Bool.false_eq_true, Bool.true_eq_false]; rfl) | (simp []; done)) (by rfl)
        refine G.aload_n hX 0 rfl dX4_avenue_60 ?_
        refine G.get hX inc_X4_avenue_4 0 rfl rfl 14 (by decide) (by decide +kernel) rfl dX4_avenue_61 ?_
        refine G.b_ne hX (tgt := 78) (by decide) dX4_avenue_64 (fun c64 => ?_) (fun c64 => ?_)
        · refine G.iconst hX (v := 1) (by decide) dX4_avenue_78 ?_
          refine G.goto hX (tgt := 83) (by decide) dX4_avenue_79 ?_
          refine G.ve (y := .int (bI (avW c rr))) (by first | (simp only [bI, avW, c64, Bool.true_or, ↓reduceIte, Bool.false_or, decide_true, decide_false, Bool.not_true, Bool.not_false, Bool.false_eq_true]; done) | (have e9 : ¬ c ≤ rr.2.1.1 := (by omega); simp only [bI, avW, e9, c64, Bool.true_or, ↓reduceIte, Bool.false_or, decide_true, decide_false, Bool.not_true, Bool.not_false]; done)) ?_
          exact J83
        · refine G.aload_n hX 0 rfl dX4_avenue_67 ?_
          refine G.get hX inc_X4_avenue_4 0 rfl rfl 11 (by decide) (by decide +kernel) rfl dX4_avenue_68 ?_
          refine G.aload_n hX 0 rfl dX4_avenue_71 ?_
          refine G.get hX inc_X4_avenue_4 0 rfl rfl 10 (by decide) (by decide +kernel) rfl dX4_avenue_72 ?_
          refine G.n_ge hX (a := rr.2.1.1) (b := c) (tgt := 82) (by omega) (by omega) (by decide) dX4_avenue_75 (fun c75 => ?_) (fun c75 => ?_)
          · refine G.iconst hX (v := 0) (by decide) dX4_avenue_82 ?_
            refine G.ve (y := .int (bI (avW c rr))) (by first | (simp only [bI, avW, c64, c75, Bool.true_or, ↓reduceIte, Bool.false_or, decide_true, decide_false, Bool.not_true, Bool.not_false, Bool.false_eq_true]; done) | (have e9 : ¬ c ≤ rr.2.1.1 := (by omega); simp only [bI, avW, e9, c64, c75, Bool.true_or, ↓reduceIte, Bool.false_or, decide_true, decide_false, Bool.not_true, Bool.not_false]; done)) ?_
            exact J83
          · refine G.iconst hX (v := 1) (by decide) dX4_avenue_78 ?_
            refine G.goto hX (tgt := 83) (by decide) dX4_avenue_79 ?_
            refine G.ve (y := .int (bI (avW c rr))) (by first | (simp only [bI, avW, c64, c75, Bool.true_or, ↓reduceIte, Bool.false_or, decide_true, decide_false, Bool.not_true, Bool.not_false, Bool.false_eq_true]; done) | (have e9 : ¬ c ≤ rr.2.1.1 := (by omega); simp only [bI, avW, e9, c64, c75, Bool.true_or, ↓reduceIte, Bool.false_or, decide_true, decide_false, Bool.not_true, Bool.not_false]; done)) ?_
            exact J83
      refine G.aload_n hX 0 rfl dX4_avenue_24 ?_
      refine G.get hX inc_X4_avenue_4 0 rfl rfl 14 (by decide) (by decide +kernel) rfl dX4_avenue_25 ?_
      refine G.b_ne hX (tgt := 59) (by decide) dX4_avenue_28 (fun c28 => ?_) (fun c28 => ?_)
      · refine G.lve (lv' := [(0, .ref (o 0)), (1, .int (nI rr.2.2))]) (by rw [hl24_2, avL_out (by simp [c28])]) ?_
        refine G.we (ws' := [(o 0, moO o ik be so (nI c) (nI rr.2.1.1) (nI rr.2.1.2.1) rr.2.1.2.2.1 (bI rr.2.1.2.2.2)), (o 1, arI E 122 rr.1), (o 3, arI E 122 s), (o 7, arI E 120 tap)]) (by rw [hl24_2, avL_out (by simp [c28])]) ?_
        exact J59
      · refine G.aload_n hX 0 rfl dX4_avenue_31 ?_
        refine G.aload_n hX 0 rfl dX4_avenue_32 ?_
        refine G.get hX inc_X4_avenue_4 0 rfl rfl 11 (by decide) (by decide +kernel) rfl dX4_avenue_33 ?_
        refine G.vi hX (As := [.int (nI q1.1)]) (st := []) (wr := [(o 1, arI E 122 s1), (o 3, arI E 122 s)]) (wf := [(o 0, moO o ik be so (nI c) (nI q1.1) (nI q1.2.1) q1.2.2.1 (bI q1.2.2.2)), (o 1, arI E 122 s1), (o 3, arI E 122 s), (o 7, arI E 120 tap)]) (q0 := 0) (ci := 4) rfl rfl (c_X4_byteAt _ E (k := q1.1) (c := c) (o := o) (ik := ik) (be := be) (so := so) (fr := nI q1.1) (tq := nI q1.2.1) (vl := q1.2.2.1) (wr := bI q1.2.2.2) (tap := tap) (h1 := by omega) (h2 := (by have := hl24_0.1; have := hl24_0.2.1; omega))) gX4_avenue_X4_byteAt cp_X4_byteAt (by decide) [0, 3] [1, 2] [2, 0, 1, 3] ⟨rfl, rfl, by decide, rfl⟩ rfl rfl (Nat.le_of_ble_eq_true rfl) dX4_avenue_36 ?_
        refine G.bipush hX (v := 59) (by decide) dX4_avenue_39 ?_
        refine G.icmp_ne hX (tgt := 59) (by decide) dX4_avenue_41 (fun c41 => ?_) (fun c41 => ?_)
        · refine G.lve (lv' := [(0, .ref (o 0)), (1, .int (nI rr.2.2))]) (by rw [hl24_2, avL_out (by simp [c28, c41])]) ?_
          refine G.we (ws' := [(o 0, moO o ik be so (nI c) (nI rr.2.1.1) (nI rr.2.1.2.1) rr.2.1.2.2.1 (bI rr.2.1.2.2.2)), (o 1, arI E 122 rr.1), (o 3, arI E 122 s), (o 7, arI E 120 tap)]) (by rw [hl24_2, avL_out (by simp [c28, c41])]) ?_
          exact J59
        · refine G.aload_n hX 0 rfl dX4_avenue_44 ?_
          refine G.iconst hX (v := 1) (by decide) dX4_avenue_45 ?_
          refine G.vv hX (As := [.int 1]) (st := []) (wr := [(o 1, arI E 122 s1), (o 3, arI E 122 s)]) (wf := [(o 0, moO o ik be so (nI c) (nI ((ms_must tap c true q1).1)) (nI ((ms_must tap c true q1).2.1)) ((ms_must tap c true q1).2.2.1) (bI ((ms_must tap c true q1).2.2.2))), (o 1, arI E 122 s1), (o 3, arI E 122 s), (o 7, arI E 120 tap)]) (q0 := 0) (ci := 4) rfl rfl (c_X4_must _ E (b := true) (q := q1) (c := c) (o := o) (ik := ik) (be := be) (so := so) (tap := tap) (h1 := by first | assumption | exact ok_must (by assumption) (by omega) | exact ok_num (by assumption) (by omega) | exact ok_num (ok_must (by assumption) (by omega)) (by omega) | exact ok_t2 (by assumption) (by omega) | exact ok_t3 (by assumption) (by omega) | exact ok_t4 (by assumption) (by omega) | exact ok_must (ok_t4 (by assumption) (by omega)) (by omega) | exact ok_w2 (by assumption) (by omega)) (h2 := by omega)) gX4_avenue_X4_must cp_X4_must (by decide) [0, 3] [1, 2] [2, 0, 1, 3] ⟨rfl, rfl, by decide, rfl⟩ rfl rfl (Nat.le_of_ble_eq_true rfl) dX4_avenue_46 ?_
          refine G.aload_n hX 0 rfl dX4_avenue_49 ?_
          refine G.vv hX (As := []) (st := []) (wr := [(o 3, arI E 122 s)]) (wf := [(o 0, moO o ik be so (nI c) (nI (((ms_item tap c s1 (ms_must tap c true q1)).2).1)) (nI (((ms_item tap c s1 (ms_must tap c true q1)).2).2.1)) (((ms_item tap c s1 (ms_must tap c true q1)).2).2.2.1) (bI (((ms_item tap c s1 (ms_must tap c true q1)).2).2.2.2))), (o 1, arI E 122 ((ms_item tap c s1 (ms_must tap c true q1)).1)), (o 3, arI E 122 s), (o 7, arI E 120 tap)]) (q0 := 0) (ci := 4) rfl rfl (c_X4_item _ E (q := ms_must tap c true q1) (c := c) (o := o) (ik := ik) (be := be) (so := so) (s := s1) (tap := tap) (h1 := ok_must hl24_0 h1) (h2 := by omega)) gX4_avenue_X4_item cp_X4_item (by decide) [0, 1, 3] [2] [1, 2, 0, 3] ⟨rfl, rfl, by decide, rfl⟩ rfl rfl (Nat.le_of_ble_eq_true rfl) dX4_avenue_50 ?_
          refine G.iinc hX (n := 1) (lv' := [(1, .int (nI (nn + 1))), (0, .ref (o 0))]) 1 rfl (inc_nI nn 1 rfl) (by decide) rfl dX4_avenue_53 ?_
          refine G.goto hX (tgt := 24) (by decide) dX4_avenue_56 ?_
          refine G.lvp (lv' := [(0, .ref (o 0)), (1, .int (nI (nn + 1)))]) [1, 0] rfl ?_
          refine G.lve (lv' := [(0, .ref (o 0)), (1, .int (nI ((nn + 1))))]) (by rfl) ?_
          refine G.we (ws' := [(o 0, moO o ik be so (nI c) (nI (((ms_item tap c s1 (ms_must tap c true q1)).2).1)) (nI (((ms_item tap c s1 (ms_must tap c true q1)).2).2.1)) (((ms_item tap c s1 (ms_must tap c true q1)).2).2.2.1) (bI (((ms_item tap c s1 (ms_must tap c true q1)).2).2.2.2))), (o 1, arI E 122 (((ms_item tap c s1 (ms_must tap c true q1)).1))), (o 3, arI E 122 s), (o 7, arI E 120 tap)]) (by rfl) ?_
          exact ih24 (kk - 1) ((ms_item tap c s1 (ms_must tap c true q1)).1) ((ms_item tap c s1 (ms_must tap c true q1)).2) (nn + 1) (ok_item (ok_must hl24_0 h1) h1) (by have := av_step (s := s1) hl24_0 h1 c28 c41; omega) (by rw [hl24_2]; exact avL_in (by have := hl24_0.1; have := hl24_0.2.1; omega) (by simp [c28, c41])) (by have := hl24_0.1; have := hl24_0.2.1; omega)
  refine G.lvp (lv' := [(0, .ref (o 0)), (1, .int 1)]) [1, 0] rfl ?_
  refine G.lve (lv' := [(0, .ref (o 0)), (1, .int (nI 1))]) (by rfl) ?_
  refine G.we (ws' := [(o 0, moO o ik be so (nI c) (nI (((ms_item tap c s (ms_tok tap c 0 vl)).2).1)) (nI (((ms_item tap c s (ms_tok tap c 0 vl)).2).2.1)) (((ms_item tap c s (ms_tok tap c 0 vl)).2).2.2.1) (bI (((ms_item tap c s (ms_tok tap c 0 vl)).2).2.2.2))), (o 1, arI E 122 (((ms_item tap c s (ms_tok tap c 0 vl)).1))), (o 3, arI E 122 s), (o 7, arI E 120 tap)]) (by rfl) ?_
  exact L24 122 121 ((ms_item tap c s (ms_tok tap c 0 vl)).1) ((ms_item tap c s (ms_tok tap c 0 vl)).2) 1 (ok_item (ok_tok (by omega) h1) h1) (by omega) (by rw [← h3, ms_av]) (by omega)
set_option maxHeartbeats 4000000 in
set_option maxRecDepth 100000 in
theorem c_X4_avenueok (l : Launch) (E : EV) (c : Nat) (rr : (Nat → Int32) × TQ × Nat) (o : Nat → Nat) (ik : Int32) (be : Int32) (so : Int32) (fr : Int32) (tq : Int32) (vl : Int32) (wr : Int32) (s : Nat → Int32) (ot : Nat → Int32) (tap : Nat → Int32) (h1 : c ≤ 120) (h2 : avW c rr = false) (h3 : ms_av tap c s vl = rr) : CI l yX4_avenue wsX4_avenue rmX4_avenue E [.ref (o 0)] [(o 0, moO o ik be so (nI c) fr tq vl wr), (o 1, arI E 122 s), (o 3, arI E 122 ot), (o 7, arI E 120 tap)] [(o 0, moO o ik be so 0 (nI rr.2.1.1) (nI rr.2.1.2.1) rr.2.1.2.2.1 0), (o 1, arI E 122 rr.1), (o 3, arI E 122 s), (o 7, arI E 120 tap)] (nI rr.2.2) := by
  have hrk := av_ok (tap := tap) (s := s) (vl := vl) h1
  rw [h3] at hrk
  have hrk1 := hrk.1
  have hrk2 := hrk.2.1
  refine CI.of (own := RX4) (cc := cX4_avenue) (nL := 2) (rt := (some .int)) (by decide) rfl rfl (Nat.le_of_ble_eq_true rfl) (fun X hX hQ => ?_)
  show G E X 2 0 [(0, .ref (o 0))] [] [(o 0, moO o ik be so (nI c) fr tq vl wr), (o 1, arI E 122 s), (o 3, arI E 122 ot), (o 7, arI E 120 tap)]
  refine G.aload_n hX 0 rfl dX4_avenue_0 ?_
  refine G.vv hX (As := []) (st := []) (wr := [(o 7, arI E 120 tap)]) (wf := [(o 0, moO o ik be so (nI c) fr tq vl wr), (o 1, arI E 122 s), (o 3, arI E 122 s), (o 7, arI E 120 tap)]) (q0 := 0) (ci := 4) rfl rfl (c_X4_saves _ E (o := o) (ik := ik) (be := be) (so := so) (tp := nI c) (fr := fr) (tq := tq) (vl := vl) (wr := wr) (s := s) (ot := ot) ) gX4_avenue_X4_saves cp_X4_saves (by decide) [0, 1, 2] [3] [1, 2, 3, 0] ⟨rfl, rfl, by decide, rfl⟩ rfl rfl (Nat.le_of_ble_eq_true rfl) dX4_avenue_1 ?_
  refine G.aload_n hX 0 rfl dX4_avenue_4 ?_
  refine G.iconst hX (v := 0) (by decide) dX4_avenue_5 ?_
  refine G.put hX (ws' := [(o 0, moO o ik be so (nI c) fr tq vl 0), (o 1, arI E 122 s), (o 3, arI E 122 s), (o 7, arI E 120 tap)]) inc_X4_avenue_4 tyX4 tyX4_ok nmX4 0 rfl rfl 14 (by decide) (by decide +kernel) rfl (tyX4_ok 14 (by decide)) rfl rfl (Nat.le_of_ble_eq_true rfl) rfl rfl dX4_avenue_6 ?_
  refine G.aload_n hX 0 rfl dX4_avenue_9 ?_
  refine G.iconst hX (v := 0) (by decide) dX4_avenue_10 ?_
  refine G.put hX (ws' := [(o 0, moO o ik be so (nI c) fr 0 vl 0), (o 1, arI E 122 s), (o 3, arI E 122 s), (o 7, arI E 120 tap)]) inc_X4_avenue_4 tyX4 tyX4_ok nmX4 0 rfl rfl 12 (by decide) (by decide +kernel) rfl (tyX4_ok 12 (by decide)) rfl rfl (Nat.le_of_ble_eq_true rfl) rfl rfl dX4_avenue_11 ?_
  refine G.aload_n hX 0 rfl dX4_avenue_14 ?_
  refine G.vv hX (As := []) (st := []) (wr := [(o 1, arI E 122 s), (o 3, arI E 122 s)]) (wf := [(o 0, moO o ik be so (nI c) (nI (ms_fr tap c 0)) (nI (ms_to tap c (ms_fr tap c 0))) vl 0), (o 1, arI E 122 s), (o 3, arI E 122 s), (o 7, arI E 120 tap)]) (q0 := 0) (ci := 4) rfl rfl (c_X4_token _ E (c := c) (k := 0) (o := o) (ik := ik) (be := be) (so := so) (fr := fr) (vl := vl) (wr := 0) (tap := tap) (h1 := by omega) (h2 := by omega)) gX4_avenue_X4_token cp_X4_token (by decide) [0, 3] [1, 2] [2, 0, 1, 3] ⟨rfl, rfl, by decide, rfl⟩ rfl rfl (Nat.le_of_ble_eq_true rfl) dX4_avenue_15 ?_
  refine G.we (ws' := [(o 0, moO o ik be so (nI c) (nI ((ms_tok tap c 0 vl).1)) (nI ((ms_tok tap c 0 vl).2.1)) ((ms_tok tap c 0 vl).2.2.1) (bI ((ms_tok tap c 0 vl).2.2.2))), (o 1, arI E 122 s), (o 3, arI E 122 s), (o 7, arI E 120 tap)]) (by rfl) ?_
  refine G.iconst hX (v := 1) (by decide) dX4_avenue_18 ?_
  refine G.istore_n hX (lv' := [(1, .int 1), (0, .ref (o 0))]) rfl (by decide) rfl dX4_avenue_19 ?_
  refine G.aload_n hX 1 rfl dX4_avenue_20 ?_
  refine G.vv hX (As := []) (st := []) (wr := [(o 3, arI E 122 s)]) (wf := [(o 0, moO o ik be so (nI c) (nI (((ms_item tap c s (ms_tok tap c 0 vl)).2).1)) (nI (((ms_item tap c s (ms_tok tap c 0 vl)).2).2.1)) (((ms_item tap c s (ms_tok tap c 0 vl)).2).2.2.1) (bI (((ms_item tap c s (ms_tok tap c 0 vl)).2).2.2.2))), (o 1, arI E 122 ((ms_item tap c s (ms_tok tap c 0 vl)).1)), (o 3, arI E 122 s), (o 7, arI E 120 tap)]) (q0 := 0) (ci := 4) rfl rfl (c_X4_item _ E (q := ms_tok tap c 0 vl) (c := c) (o := o) (ik := ik) (be := be) (so := so) (s := s) (tap := tap) (h1 := ok_tok (by omega) h1) (h2 := by omega)) gX4_avenue_X4_item cp_X4_item (by decide) [0, 1, 3] [2] [1, 2, 0, 3] ⟨rfl, rfl, by decide, rfl⟩ rfl rfl (Nat.le_of_ble_eq_true rfl) dX4_avenue_21 ?_
  have L24 : ∀ (n : Nat) (kk : Nat) (s1 : Nat → Int32) (q1 : TQ) (nn : Nat), OKq c q1 → 121 ≤ kk + q1.1 → rr = ms_avL tap c kk s1 q1 nn → kk + 1 ≤ n → G E X 2 24 [(0, .ref (o 0)), (1, .int (nI nn))] [] [(o 0, moO o ik be so (nI c) (nI q1.1) (nI q1.2.1) q1.2.2.1 (bI q1.2.2.2)), (o 1, arI E 122 s1), (o 3, arI E 122 s), (o 7, arI E 120 tap)] := by
    intro n
    induction n with
    | zero => intro kk s1 q1 nn hl24_0 hl24_1 hl24_2 hl24_3; exact absurd hl24_3 (by omega)
    | succ n ih24 =>
      intro kk s1 q1 nn hl24_0 hl24_1 hl24_2 hl24_3
      have J59 : G E X 2 59 [(0, .ref (o 0)), (1, .int (nI rr.2.2))] [] [(o 0, moO o ik be so (nI c) (nI rr.2.1.1) (nI rr.2.1.2.1) rr.2.1.2.2.1 (bI rr.2.1.2.2.2)), (o 1, arI E 122 rr.1), (o 3, arI E 122 s), (o 7, arI E 120 tap)] := by
        refine G.aload_n hX 0 rfl dX4_avenue_59 ?_
        have J83 : G E X 2 83 [(0, .ref (o 0)), (1, .int (nI rr.2.2))] [.int (bI (avW c rr)), .ref (o 0)] [(o 0, moO o ik be so (nI c) (nI rr.2.1.1) (nI rr.2.1.2.1) rr.2.1.2.2.1 (bI rr.2.1.2.2.2)), (o 1, arI E 122 rr.1), (o 3, arI E 122 s), (o 7, arI E 120 tap)] := by
          refine G.put hX (ws' := [(o 0, moO o ik be so (nI c) (nI rr.2.1.1) (nI rr.2.1.2.1) rr.2.1.2.2.1 (bI (avW c rr))), (o 1, arI E 122 rr.1), (o 3, arI E 122 s), (o 7, arI E 120 tap)]) inc_X4_avenue_4 tyX4 tyX4_ok nmX4 0 rfl rfl 14 (by decide) (by decide +kernel) rfl (tyX4_ok 14 (by decide)) (bI_z _) (bI_f _) (Nat.le_of_ble_eq_true rfl) rfl rfl dX4_avenue_83 ?_
          refine G.we (ws' := [(o 0, moO o ik be so (nI c) (nI rr.2.1.1) (nI rr.2.1.2.1) rr.2.1.2.2.1 0), (o 1, arI E 122 rr.1), (o 3, arI E 122 s), (o 7, arI E 120 tap)]) (by rw [h2]; rfl) ?_
          refine G.aload_n hX 0 rfl dX4_avenue_86 ?_
          refine G.get hX inc_X4_avenue_4 0 rfl rfl 14 (by decide) (by decide +kernel) rfl dX4_avenue_87 ?_
          refine G.if_eq hX (tgt := 97) (by decide) dX4_avenue_90 (fun _ => ?_) (fun c90 => absurd c90 (by decide))
          refine G.aload_n hX 0 rfl dX4_avenue_97 ?_
          refine G.iconst hX (v := 0) (by decide) dX4_avenue_98 ?_
          refine G.put hX (ws' := [(o 0, moO o ik be so 0 (nI rr.2.1.1) (nI rr.2.1.2.1) rr.2.1.2.2.1 0), (o 1, arI E 122 rr.1), (o 3, arI E 122 s), (o 7, arI E 120 tap)]) inc_X4_avenue_4 tyX4 tyX4_ok nmX4 0 rfl rfl 10 (by decide) (by decide +kernel) rfl (tyX4_ok 10 (by decide)) rfl rfl (Nat.le_of_ble_eq_true rfl) rfl rfl dX4_avenue_99 ?_
          refine G.aload_n hX 0 rfl dX4_avenue_102 ?_
          refine G.get hX inc_X4_avenue_4 0 rfl rfl 14 (by decide) (by decide +kernel) rfl dX4_avenue_103 ?_
          refine G.if_eq hX (tgt := 118) (by decide) dX4_avenue_106 (fun _ => ?_) (fun c106 => absurd c106 (by decide))
          refine G.iload_n hX 1 rfl dX4_avenue_118 ?_
          exact G.iret hX hQ dX4_avenue_119 (by rfl) (by rfl)
        refine G.aload_n hX 0 rfl dX4_avenue_60 ?_
        refine G.get hX inc_X4_avenue_4 0 rfl rfl 14 (by decide) (by decide +kernel) rfl dX4_avenue_61 ?_
        refine G.b_ne hX (tgt := 78) (by decide) dX4_avenue_64 (fun c64 => ?_) (fun c64 => ?_)
        · refine G.iconst hX (v := 1) (by decide) dX4_avenue_78 ?_
          refine G.goto hX (tgt := 83) (by decide) dX4_avenue_79 ?_
          refine G.ve (y := .int (bI (avW c rr))) (by first | (simp only [bI, avW, c64, Bool.true_or, ↓reduceIte, Bool.false_or, decide_true, decide_false, Bool.not_true, Bool.not_false, Bool.false_eq_true]; done) | (have e9 : ¬ c ≤ rr.2.1.1 := (by omega); simp only [bI, avW, e9, c64, Bool.true_or, ↓reduceIte, Bool.false_or, decide_true, decide_false, Bool.not_true, Bool.not_false]; done)) ?_
          exact J83
        · refine G.aload_n hX 0 rfl dX4_avenue_67 ?_
          refine G.get hX inc_X4_avenue_4 0 rfl rfl 11 (by decide) (by decide +kernel) rfl dX4_avenue_68 ?_
          refine G.aload_n hX 0 rfl dX4_avenue_71 ?_
          refine G.get hX inc_X4_avenue_4 0 rfl rfl 10 (by decide) (by decide +kernel) rfl dX4_avenue_72 ?_
          refine G.n_ge hX (a := rr.2.1.1) (b := c) (tgt := 82) (by omega) (by omega) (by decide) dX4_avenue_75 (fun c75 => ?_) (fun c75 => ?_)
          · refine G.iconst hX (v := 0) (by decide) dX4_avenue_82 ?_
            refine G.ve (y := .int (bI (avW c rr))) (by first | (simp only [bI, avW, c64, c75, Bool.true_or, ↓reduceIte, Bool.false_or, decide_true, decide_false, Bool.not_true, Bool.not_false, Bool.false_eq_true]; done) | (have e9 : ¬ c ≤ rr.2.1.1 := (by omega); simp only [bI, avW, e9, c64, c75, Bool.true_or, ↓reduceIte, Bool.false_or, decide_true, decide_false, Bool.not_true, Bool.not_false]; done)) ?_
            exact J83
          · refine G.iconst hX (v := 1) (by decide) dX4_avenue_78 ?_
            refine G.goto hX (tgt := 83) (by decide) dX4_avenue_79 ?_
            refine G.ve (y := .int (bI (avW c rr))) (by first | (simp only [bI, avW, c64, c75, Bool.true_or, ↓reduceIte, Bool.false_or, decide_true, decide_false, Bool.not_true, Bool.not_false, Bool.false_eq_true]; done) | (have e9 : ¬ c ≤ rr.2.1.1 := (by omega); simp only [bI, avW, e9, c64, c75, Bool.true_or, ↓reduceIte, Bool.false_or, decide_true, decide_false, Bool.not_true, Bool.not_false]; done)) ?_
            exact J83
      refine G.aload_n hX 0 rfl dX4_avenue_24 ?_
      refine G.get hX inc_X4_avenue_4 0 rfl rfl 14 (by decide) (by decide +kernel) rfl dX4_avenue_25 ?_
      refine G.b_ne hX (tgt := 59) (by decide) dX4_avenue_28 (fun c28 => ?_) (fun c28 => ?_)
      · refine G.lve (lv' := [(0, .ref (o 0)), (1, .int (nI rr.2.2))]) (by rw [hl24_2, avL_out (by simp [c28])]) ?_
        refine G.we (ws' := [(o 0, moO o ik be so (nI c) (nI rr.2.1.1) (nI rr.2.1.2.1) rr.2.1.2.2.1 (bI rr.2.1.2.2.2)), (o 1, arI E 122 rr.1), (o 3, arI E 122 s), (o 7, arI E 120 tap)]) (by rw [hl24_2, avL_out (by simp [c28])]) ?_
        exact J59
      · refine G.aload_n hX 0 rfl dX4_avenue_31 ?_
        refine G.aload_n hX 0 rfl dX4_avenue_32 ?_
        refine G.get hX inc_X4_avenue_4 0 rfl rfl 11 (by decide) (by decide +kernel) rfl dX4_avenue_33 ?_
        refine G.vi hX (As := [.int (nI q1.1)]) (st := []) (wr := [(o 1, arI E 122 s1), (o 3, arI E 122 s)]) (wf := [(o 0, moO o ik be so (nI c) (nI q1.1) (nI q1.2.1) q1.2.2.1 (bI q1.2.2.2)), (o 1, arI E 122 s1), (o 3, arI E 122 s), (o 7, arI E 120 tap)]) (q0 := 0) (ci := 4) rfl rfl (c_X4_byteAt _ E (k := q1.1) (c := c) (o := o) (ik := ik) (be := be) (so := so) (fr := nI q1.1) (tq := nI q1.2.1) (vl := q1.2.2.1) (wr := bI q1.2.2.2) (tap := tap) (h1 := by omega) (h2 := (by have := hl24_0.1; have := hl24_0.2.1; omega))) gX4_avenue_X4_byteAt cp_X4_byteAt (by decide) [0, 3] [1, 2] [2, 0, 1, 3] ⟨rfl, rfl, by decide, rfl⟩ rfl rfl (Nat.le_of_ble_eq_true rfl) dX4_avenue_36 ?_
        refine G.bipush hX (v := 59) (by decide) dX4_avenue_39 ?_
        refine G.icmp_ne hX (tgt := 59) (by decide) dX4_avenue_41 (fun c41 => ?_) (fun c41 => ?_)
        · refine G.lve (lv' := [(0, .ref (o 0)), (1, .int (nI rr.2.2))]) (by rw [hl24_2, avL_out (by simp [c28, c41])]) ?_
          refine G.we (ws' := [(o 0, moO o ik be so (nI c) (nI rr.2.1.1) (nI rr.2.1.2.1) rr.2.1.2.2.1 (bI rr.2.1.2.2.2)), (o 1, arI E 122 rr.1), (o 3, arI E 122 s), (o 7, arI E 120 tap)]) (by rw [hl24_2, avL_out (by simp [c28, c41])]) ?_
          exact J59
        · refine G.aload_n hX 0 rfl dX4_avenue_44 ?_
          refine G.iconst hX (v := 1) (by decide) dX4_avenue_45 ?_
          refine G.vv hX (As := [.int 1]) (st := []) (wr := [(o 1, arI E 122 s1), (o 3, arI E 122 s)]) (wf := [(o 0, moO o ik be so (nI c) (nI ((ms_must tap c true q1).1)) (nI ((ms_must tap c true q1).2.1)) ((ms_must tap c true q1).2.2.1) (bI ((ms_must tap c true q1).2.2.2))), (o 1, arI E 122 s1), (o 3, arI E 122 s), (o 7, arI E 120 tap)]) (q0 := 0) (ci := 4) rfl rfl (c_X4_must _ E (b := true) (q := q1) (c := c) (o := o) (ik := ik) (be := be) (so := so) (tap := tap) (h1 := by first | assumption | exact ok_must (by assumption) (by omega) | exact ok_num (by assumption) (by omega) | exact ok_num (ok_must (by assumption) (by omega)) (by omega) | exact ok_t2 (by assumption) (by omega) | exact ok_t3 (by assumption) (by omega) | exact ok_t4 (by assumption) (by omega) | exact ok_must (ok_t4 (by assumption) (by omega)) (by omega) | exact ok_w2 (by assumption) (by omega)) (h2 := by omega)) gX4_avenue_X4_must cp_X4_must (by decide) [0, 3] [1, 2] [2, 0, 1, 3] ⟨rfl, rfl, by decide, rfl⟩ rfl rfl (Nat.le_of_ble_eq_true rfl) dX4_avenue_46 ?_
          refine G.aload_n hX 0 rfl dX4_avenue_49 ?_
          refine G.vv hX (As := []) (st := []) (wr := [(o 3, arI E 122 s)]) (wf := [(o 0, moO o ik be so (nI c) (nI (((ms_item tap c s1 (ms_must tap c true q1)).2).1)) (nI (((ms_item tap c s1 (ms_must tap c true q1)).2).2.1)) (((ms_item tap c s1 (ms_must tap c true q1)).2).2.2.1) (bI (((ms_item tap c s1 (ms_must tap c true q1)).2).2.2.2))), (o 1, arI E 122 ((ms_item tap c s1 (ms_must tap c true q1)).1)), (o 3, arI E 122 s), (o 7, arI E 120 tap)]) (q0 := 0) (ci := 4) rfl rfl (c_X4_item _ E (q := ms_must tap c true q1) (c := c) (o := o) (ik := ik) (be := be) (so := so) (s := s1) (tap := tap) (h1 := ok_must hl24_0 h1) (h2 := by omega)) gX4_avenue_X4_item cp_X4_item (by decide) [0, 1, 3] [2] [1, 2, 0, 3] ⟨rfl, rfl, by decide, rfl⟩ rfl rfl (Nat.le_of_ble_eq_true rfl) dX4_avenue_50 ?_
          refine G.iinc hX (n := 1) (lv' := [(1, .int (nI (nn + 1))), (0, .ref (o 0))]) 1 rfl (inc_nI nn 1 rfl) (by decide) rfl dX4_avenue_53 ?_
          refine G.goto hX (tgt := 24) (by decide) dX4_avenue_56 ?_
          refine G.lvp (lv' := [(0, .ref (o 0)), (1, .int (nI (nn + 1)))]) [1, 0] rfl ?_
          refine G.lve (lv' := [(0, .ref (o 0)), (1, .int (nI ((nn + 1))))]) (by rfl) ?_
          refine G.we (ws' := [(o 0, moO o ik be so (nI c) (nI (((ms_item tap c s1 (ms_must tap c true q1)).2).1)) (nI (((ms_item tap c s1 (ms_must tap c true q1)).2).2.1)) (((ms_item tap c s1 (ms_must tap c true q1)).2).2.2.1) (bI (((ms_item tap c s1 (ms_must tap c true q1)).2).2.2.2))), (o 1, arI E 122 (((ms_item tap c s1 (ms_must tap c true q1)).1))), (o 3, arI E 122 s), (o 7, arI E 120 tap)]) (by rfl) ?_
          exact ih24 (kk - 1) ((ms_item tap c s1 (ms_must tap c true q1)).1) ((ms_item tap c s1 (ms_must tap c true q1)).2) (nn + 1) (ok_item (ok_must hl24_0 h1) h1) (by have := av_step (s := s1) hl24_0 h1 c28 c41; omega) (by rw [hl24_2]; exact avL_in (by have := hl24_0.1; have := hl24_0.2.1; omega) (by simp [c28, c41])) (by have := hl24_0.1; have := hl24_0.2.1; omega)
  refine G.lvp (lv' := [(0, .ref (o 0)), (1, .int 1)]) [1, 0] rfl ?_
  refine G.lve (lv' := [(0, .ref (o 0)), (1, .int (nI 1))]) (by rfl) ?_
  refine G.we (ws' := [(o 0, moO o ik be so (nI c) (nI (((ms_item tap c s (ms_tok tap c 0 vl)).2).1)) (nI (((ms_item tap c s (ms_tok tap c 0 vl)).2).2.1)) (((ms_item tap c s (ms_tok tap c 0 vl)).2).2.2.1) (bI (((ms_item tap c s (ms_tok tap c 0 vl)).2).2.2.2))), (o 1, arI E 122 (((ms_item tap c s (ms_tok tap c 0 vl)).1))), (o 3, arI E 122 s), (o 7, arI E 120 tap)]) (by rfl) ?_
  exact L24 122 121 ((ms_item tap c s (ms_tok tap c 0 vl)).1) ((ms_item tap c s (ms_tok tap c 0 vl)).2) 1 (ok_item (ok_tok (by omega) h1) h1) (by omega) (by rw [← h3, ms_av]) (by omega)
