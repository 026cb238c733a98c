abbrev rmX2_isLetter : Room := { frames := 0, cells := 0, slots := 0, locals := 0 }
theorem cp_X2_isLetter : CP yX2_isLetter RX2 wsX2_isLetter 1 1 rmX2_isLetter := ⟨⟨_, _, _, rfl⟩, rfl, rfl, by decide +kernel⟩
set_option maxHeartbeats 4000000 in
set_option maxRecDepth 100000 in
theorem c_X2_isLetter (l : Launch) (E : EV) (x : Int32)  : CI l yX2_isLetter wsX2_isLetter rmX2_isLetter E [.int x] [] [] (bI (cL x)) := by
  refine CI.of (own := RX2) (cc := cX2_isLetter) (nL := 1) (rt := (some .boolean)) (by decide) rfl rfl (Nat.le_of_ble_eq_true rfl) (fun X hX hQ => ?_)
  show G E X 1 0 [(0, .int x)] [] []
  refine G.iload_n hX 0 rfl dX2_isLetter_0 ?_
  refine G.bipush hX (v := 97) (by decide) dX2_isLetter_1 ?_
  refine G.icmp_lt hX (tgt := 16) (by decide) dX2_isLetter_3 (fun c3 => ?_) (fun c3 => ?_)
  · refine G.iconst hX (v := 0) (by decide) dX2_isLetter_16 ?_
    exact G.zret hX hQ rfl dX2_isLetter_17 (bI_0.mpr (by first | rfl | (simp only [cL, c3, ↓reduceIte, Bool.not_true, Bool.not_false, Bool.and_true, Bool.true_and, Bool.and_false, Bool.false_and, Bool.or_true, Bool.true_or, Bool.or_false, Bool.false_or, decide_true, decide_false, not_true_eq_false, not_false_eq_true, Bool.false_eq_true, Bool.true_eq_false]; done) | (simp only [cL, c3, ↓reduceIte, Bool.not_true, Bool.not_false, Bool.and_true, Bool.true_and, Bool.and_false, Bool.false_and, Bool.or_true, Bool.true_or, Bool.or_false, Bool.false_or, decide_true, decide_false, not_true_eq_false, not_false_eq_true, Bool.false_eq_true, Bool.true_eq_false]; rfl) | (simp [cL, c3]; done))).symm (by rfl)
  · refine G.iload_n hX 0 rfl dX2_isLetter_6 ?_
    refine G.bipush hX (v := 122) (by decide) dX2_isLetter_7 ?_
    refine G.icmp_gt hX (tgt := 16) (by decide) dX2_isLetter_9 (fun c9 => ?_) (fun c9 => ?_)
    · refine G.iconst hX (v := 0) (by decide) dX2_isLetter_16 ?_
      exact G.zret hX hQ rfl dX2_isLetter_17 (bI_0.mpr (by first | rfl | (simp only [cL, c3, c9, ↓reduceIte, Bool.not_true, Bool.not_false, Bool.and_true, Bool.true_and, Bool.and_false, Bool.false_and, Bool.or_true, Bool.true_or, Bool.or_false, Bool.false_or, decide_true, decide_false, not_true_eq_false, not_false_eq_true, Bool.false_eq_true, Bool.true_eq_false]; done) | (simp only [cL, c3, c9, ↓reduceIte, Bool.not_true, Bool.not_false, Bool.and_true, Bool.true_and, Bool.and_false, Bool.false_and, Bool.or_true, Bool.true_or, Bool.or_false, Bool.false_or, decide_true, decide_false, not_true_eq_false, not_false_eq_true, Bool.false_eq_true, Bool.true_eq_false]; rfl) | (simp [cL, c3, c9]; done))).symm (by rfl)
    · refine G.iconst hX (v := 1) (by decide) dX2_isLetter_12 ?_
      refine G.goto hX (tgt := 17) (by decide) dX2_isLetter_13 ?_
      exact G.zret hX hQ rfl dX2_isLetter_17 (bI_1.mpr (by first | rfl | (simp only [cL, c3, c9, ↓reduceIte, Bool.not_true, Bool.not_false, Bool.and_true, Bool.true_and, Bool.and_false, Bool.false_and, Bool.or_true, Bool.true_or, Bool.or_false, Bool.false_or, decide_true, decide_false, not_true_eq_false, not_false_eq_true, Bool.false_eq_true, Bool.true_eq_false]; done) | (simp only [cL, c3, c9, ↓reduceIte, Bool.not_true, Bool.not_false, Bool.and_true, Bool.true_and, Bool.and_false, Bool.false_and, Bool.or_true, Bool.true_or, Bool.or_false, Bool.false_or, decide_true, decide_false, not_true_eq_false, not_false_eq_true, Bool.false_eq_true, Bool.true_eq_false]; rfl) | (simp [cL, c3, c9]; done))).symm (by rfl)
abbrev rmX2_isDigit : Room := { frames := 0, cells := 0, slots := 0, locals := 0 }
theorem cp_X2_isDigit : CP yX2_isDigit RX2 wsX2_isDigit 1 1 rmX2_isDigit := ⟨⟨_, _, _, rfl⟩, rfl, rfl, by decide +kernel⟩
set_option maxHeartbeats 4000000 in
set_option maxRecDepth 100000 in
theorem c_X2_isDigit (l : Launch) (E : EV) (x : Int32)  : CI l yX2_isDigit wsX2_isDigit rmX2_isDigit E [.int x] [] [] (bI (cD x)) := by
  refine CI.of (own := RX2) (cc := cX2_isDigit) (nL := 1) (rt := (some .boolean)) (by decide) rfl rfl (Nat.le_of_ble_eq_true rfl) (fun X hX hQ => ?_)
  show G E X 1 0 [(0, .int x)] [] []
  refine G.iload_n hX 0 rfl dX2_isDigit_0 ?_
  refine G.bipush hX (v := 48) (by decide) dX2_isDigit_1 ?_
  refine G.icmp_lt hX (tgt := 16) (by decide) dX2_isDigit_3 (fun c3 => ?_) (fun c3 => ?_)
  · refine G.iconst hX (v := 0) (by decide) dX2_isDigit_16 ?_
    exact G.zret hX hQ rfl dX2_isDigit_17 (bI_0.mpr (by first | rfl | (simp only [cD, c3, ↓reduceIte, Bool.not_true, Bool.not_false, Bool.and_true, Bool.true_and, Bool.and_false, Bool.false_and, Bool.or_true, Bool.true_or, Bool.or_false, Bool.false_or, decide_true, decide_false, not_true_eq_false, not_false_eq_true, Bool.false_eq_true, Bool.true_eq_false]; done) | (simp only [cD, c3, ↓reduceIte, Bool.not_true, Bool.not_false, Bool.and_true, Bool.true_and, Bool.and_false, Bool.false_and, Bool.or_true, Bool.true_or, Bool.or_false, Bool.false_or, decide_true, decide_false, not_true_eq_false, not_false_eq_true, Bool.false_eq_true, Bool.true_eq_false]; rfl) | (simp [cD, c3]; done))).symm (by rfl)
  · refine G.iload_n hX 0 rfl dX2_isDigit_6 ?_
    refine G.bipush hX (v := 57) (by decide) dX2_isDigit_7 ?_
    refine G.icmp_gt hX (tgt := 16) (by decide) dX2_isDigit_9 (fun c9 => ?_) (fun c9 => ?_)
    · refine G.iconst hX (v := 0) (by decide) dX2_isDigit_16 ?_
      exact G.zret hX hQ rfl dX2_isDigit_17 (bI_0.mpr (by first | rfl | (simp only [cD, c3, c9, ↓reduceIte, Bool.not_true, Bool.not_false, Bool.and_true, Bool.true_and, Bool.and_false, Bool.false_and, Bool.or_true, Bool.true_or, Bool.or_false, Bool.false_or, decide_true, decide_false, not_true_eq_false, not_false_eq_true, Bool.false_eq_true, Bool.true_eq_false]; done) | (simp only [cD, c3, c9, ↓reduceIte, Bool.not_true, Bool.not_false, Bool.and_true, Bool.true_and, Bool.and_false, Bool.false_and, Bool.or_true, Bool.true_or, Bool.or_false, Bool.false_or, decide_true, decide_false, not_true_eq_false, not_false_eq_true, Bool.false_eq_true, Bool.true_eq_false]; rfl) | (simp [cD, c3, c9]; done))).symm (by rfl)
    · refine G.iconst hX (v := 1) (by decide) dX2_isDigit_12 ?_
      refine G.goto hX (tgt := 17) (by decide) dX2_isDigit_13 ?_
      exact G.zret hX hQ rfl dX2_isDigit_17 (bI_1.mpr (by first | rfl | (simp only [cD, c3, c9, ↓reduceIte, Bool.not_true, Bool.not_false, Bool.and_true, Bool.true_and, Bool.and_false, Bool.false_and, Bool.or_true, Bool.true_or, Bool.or_false, Bool.false_or, decide_true, decide_false, not_true_eq_false, not_false_eq_true, Bool.false_eq_true, Bool.true_eq_false]; done) | (simp only [cD, c3, c9, ↓reduceIte, Bool.not_true, Bool.not_false, Bool.and_true, Bool.true_and, Bool.and_false, Bool.false_and, Bool.or_true, Bool.true_or, Bool.or_false, Bool.false_or, decide_true, decide_false, not_true_eq_false, not_false_eq_true, Bool.false_eq_true, Bool.true_eq_false]; rfl) | (simp [cD, c3, c9]; done))).symm (by rfl)
abbrev rmX2_advance : Room := { frames := 1, cells := 0, slots := 0, locals := 20 }
theorem cp_X2_advance : CP yX2_advance RX2 wsX2_advance 1 0 rmX2_advance := ⟨⟨_, _, _, rfl⟩, rfl, rfl, by decide +kernel⟩
theorem inc_X2_advance_2 : ∀ w ∈ u_ws RX2 TX2 6, w ∈ wsX2_advance := by decide +kernel
set_option maxHeartbeats 4000000 in
set_option maxRecDepth 100000 in
theorem c_X2_advance (l : Launch) (E : EV) (q : XQ) (c : Nat) (xt : Nat → Nat) (by8 : Nat → Int32) (h1 : q.2.1 ≤ c) (h2 : c ≤ 120) : CV l yX2_advance wsX2_advance rmX2_advance E [.ref (xt 0)] [(xt 0, txO xt (nI c) (nI q.1) (nI q.2.1) (nI q.2.2.1) q.2.2.2), (xt 1, arB E 120 by8)] [(xt 0, txO xt (nI c) (nI ((x_adv by8 c q).1)) (nI ((x_adv by8 c q).2.1)) (nI ((x_adv by8 c q).2.2.1)) ((x_adv by8 c q).2.2.2)), (xt 1, arB E 120 by8)] := by
  have hsc := xst_le (b := by8) h1 h2
  refine CV.of (own := RX2) (cc := cX2_advance) (nL := 1) (rt := none) (by decide) rfl rfl (Nat.le_of_ble_eq_true rfl) (fun X hX hQ => ?_)
  show G E X 1 0 [(0, .ref (xt 0))] [] [(xt 0, txO xt (nI c) (nI q.1) (nI q.2.1) (nI q.2.2.1) q.2.2.2), (xt 1, arB E 120 by8)]
  refine G.aload_n hX 0 rfl dX2_advance_0 ?_
  refine G.aload_n hX 0 rfl dX2_advance_1 ?_
  refine G.get hX inc_X2_advance_2 0 rfl rfl 3 (by decide) (by decide +kernel) rfl dX2_advance_2 ?_
  refine G.put hX (ws' := [(xt 0, txO xt (nI c) (nI q.2.1) (nI q.2.1) (nI q.2.2.1) q.2.2.2), (xt 1, arB E 120 by8)]) inc_X2_advance_2 tyX2 tyX2_ok nmX2 0 rfl rfl 2 (by decide) (by decide +kernel) rfl (tyX2_ok 2 (by decide)) rfl rfl (Nat.le_of_ble_eq_true rfl) rfl rfl dX2_advance_5 ?_
  have L8 : ∀ (n : Nat) (j : Nat), q.2.1 ≤ j → j ≤ c → x_st by8 c q.2.1 = ff (x_stP by8 c) (121 - j) j → c + 1 ≤ j + n → G E X 1 8 [(0, .ref (xt 0))] [] [(xt 0, txO xt (nI c) (nI j) (nI q.2.1) (nI q.2.2.1) q.2.2.2), (xt 1, arB E 120 by8)] := by
    intro n
    induction n with
    | zero => intro j hl8_0 hl8_1 hl8_2 hl8_3; exact absurd hl8_3 (by omega)
    | succ n ih8 =>
      intro j hl8_0 hl8_1 hl8_2 hl8_3
      have J46 : G E X 1 46 [(0, .ref (xt 0))] [] [(xt 0, txO xt (nI c) (nI (x_st by8 c q.2.1)) (nI q.2.1) (nI q.2.2.1) q.2.2.2), (xt 1, arB E 120 by8)] := by
        refine G.aload_n hX 0 rfl dX2_advance_46 ?_
        refine G.aload_n hX 0 rfl dX2_advance_47 ?_
        refine G.get hX inc_X2_advance_2 0 rfl rfl 2 (by decide) (by decide +kernel) rfl dX2_advance_48 ?_
        refine G.put hX (ws' := [(xt 0, txO xt (nI c) (nI (x_st by8 c q.2.1)) (nI (x_st by8 c q.2.1)) (nI q.2.2.1) q.2.2.2), (xt 1, arB E 120 by8)]) inc_X2_advance_2 tyX2 tyX2_ok nmX2 0 rfl rfl 3 (by decide) (by decide +kernel) rfl (tyX2_ok 3 (by decide)) rfl rfl (Nat.le_of_ble_eq_true rfl) rfl rfl dX2_advance_51 ?_
        refine G.aload_n hX 0 rfl dX2_advance_54 ?_
        refine G.get hX inc_X2_advance_2 0 rfl rfl 2 (by decide) (by decide +kernel) rfl dX2_advance_55 ?_
        refine G.aload_n hX 0 rfl dX2_advance_58 ?_
        refine G.get hX inc_X2_advance_2 0 rfl rfl 0 (by decide) (by decide +kernel) rfl dX2_advance_59 ?_
        refine G.n_lt hX (a := x_st by8 c q.2.1) (b := c) (tgt := 73) (by omega) (by omega) (by decide) dX2_advance_62 (fun c62 => ?_) (fun c62 => ?_)
        · have hn : ¬ c ≤ x_st by8 c q.2.1 := by omega
          refine G.aload_n hX 0 rfl dX2_advance_73 ?_
          refine G.get hX inc_X2_advance_2 0 rfl rfl 1 (by decide) (by decide +kernel) rfl dX2_advance_74 ?_
          refine G.aload_n hX 0 rfl dX2_advance_77 ?_
          refine G.get hX inc_X2_advance_2 0 rfl rfl 2 (by decide) (by decide +kernel) rfl dX2_advance_78 ?_
          refine G.bald hX (j := x_st by8 c q.2.1) 1 rfl (by omega) (by omega) dX2_advance_81 ?_
          refine G.s0i hX (As := [.int (by8 (x_st by8 c q.2.1))]) (st := []) (c_X2_isLetter _ E (x := by8 (x_st by8 c q.2.1)) ) gX2_advance_X2_isLetter cp_X2_isLetter (by decide) rfl rfl (Nat.le_of_ble_eq_true rfl) dX2_advance_82 ?_
          refine G.b_eq hX (tgt := 132) (by decide) dX2_advance_85 (fun c85 => ?_) (fun c85 => ?_)
          · refine G.aload_n hX 0 rfl dX2_advance_132 ?_
            refine G.get hX inc_X2_advance_2 0 rfl rfl 1 (by decide) (by decide +kernel) rfl dX2_advance_133 ?_
            refine G.aload_n hX 0 rfl dX2_advance_136 ?_
            refine G.get hX inc_X2_advance_2 0 rfl rfl 2 (by decide) (by decide +kernel) rfl dX2_advance_137 ?_
            refine G.bald hX (j := x_st by8 c q.2.1) 1 rfl (by omega) (by omega) dX2_advance_140 ?_
            refine G.s0i hX (As := [.int (by8 (x_st by8 c q.2.1))]) (st := []) (c_X2_isDigit _ E (x := by8 (x_st by8 c q.2.1)) ) gX2_advance_X2_isDigit cp_X2_isDigit (by decide) rfl rfl (Nat.le_of_ble_eq_true rfl) dX2_advance_141 ?_
            refine G.b_eq hX (tgt := 226) (by decide) dX2_advance_144 (fun c144 => ?_) (fun c144 => ?_)
            · refine G.aload_n hX 0 rfl dX2_advance_226 ?_
              have J246 : G E X 1 246 [(0, .ref (xt 0))] [.int (nI (if by8 (x_st by8 c q.2.1) = 59 then 3 else 4)), .ref (xt 0)] [(xt 0, txO xt (nI c) (nI (x_st by8 c q.2.1)) (nI (x_st by8 c q.2.1)) (nI q.2.2.1) q.2.2.2), (xt 1, arB E 120 by8)] := by
                refine G.put hX (ws' := [(xt 0, txO xt (nI c) (nI (x_st by8 c q.2.1)) (nI (x_st by8 c q.2.1)) (nI (if by8 (x_st by8 c q.2.1) = 59 then 3 else 4)) q.2.2.2), (xt 1, arB E 120 by8)]) inc_X2_advance_2 tyX2 tyX2_ok nmX2 0 rfl rfl 4 (by decide) (by decide +kernel) rfl (tyX2_ok 4 (by decide)) rfl rfl (Nat.le_of_ble_eq_true rfl) rfl rfl dX2_advance_246 ?_
                refine G.aload_n hX 0 rfl dX2_advance_249 ?_
                refine G.aload_n hX 0 rfl dX2_advance_250 ?_
                refine G.get hX inc_X2_advance_2 0 rfl rfl 2 (by decide) (by decide +kernel) rfl dX2_advance_251 ?_
                refine G.iconst hX (v := 1) (by decide) dX2_advance_254 ?_
                refine G.iadd hX dX2_advance_255 ?_
                refine G.ie (nI_add (x_st by8 c q.2.1) 1) ?_
                refine G.put hX (ws' := [(xt 0, txO xt (nI c) (nI (x_st by8 c q.2.1)) (nI ((x_st by8 c q.2.1) + 1)) (nI (if by8 (x_st by8 c q.2.1) = 59 then 3 else 4)) q.2.2.2), (xt 1, arB E 120 by8)]) inc_X2_advance_2 tyX2 tyX2_ok nmX2 0 rfl rfl 3 (by decide) (by decide +kernel) rfl (tyX2_ok 3 (by decide)) rfl rfl (Nat.le_of_ble_eq_true rfl) rfl rfl dX2_advance_256 ?_
                exact G.vret hX hQ dX2_advance_259 (by first | (rw [x_adv, if_pos c62]; first | done | rfl) | (rw [x_adv, if_pos (show c ≤ x_st by8 c q.2.1 by omega)]; first | done | rfl) | (have e8 : x_eL by8 c (x_st by8 c q.2.1) = i := (by rw [hl93_2]; exact ff_t (by omega) (by first | (simp [x_eLP, c101]; done) | (simp [x_eLP, c116]; done))); simp only [x_adv, hn, c85, ↓reduceIte, e8]; first | done | rfl) | (have e8 : x_eD by8 c (x_st by8 c q.2.1) = x_st by8 c q.2.1 + i := (by rw [hl157_1]; exact ff_t (by omega) (by first | (simp [x_eDP, c165]; done) | (simp [x_eDP, c180]; done))); simp only [x_adv, hn, c85, c144, ↓reduceIte, Bool.false_eq_true, x_nv, e8, Nat.add_sub_cancel_left]; first | done | rfl) | (simp only [x_adv, hn, c85, c144, ↓reduceIte, Bool.false_eq_true]; first | done | rfl))
              refine G.aload_n hX 0 rfl dX2_advance_227 ?_
              refine G.get hX inc_X2_advance_2 0 rfl rfl 1 (by decide) (by decide +kernel) rfl dX2_advance_228 ?_
              refine G.aload_n hX 0 rfl dX2_advance_231 ?_
              refine G.get hX inc_X2_advance_2 0 rfl rfl 2 (by decide) (by decide +kernel) rfl dX2_advance_232 ?_
              refine G.bald hX (j := x_st by8 c q.2.1) 1 rfl (by omega) (by omega) dX2_advance_235 ?_
              refine G.bipush hX (v := 59) (by decide) dX2_advance_236 ?_
              refine G.icmp_ne hX (tgt := 245) (by decide) dX2_advance_238 (fun c238 => ?_) (fun c238 => ?_)
              · refine G.iconst hX (v := 4) (by decide) dX2_advance_245 ?_
                refine G.ve (y := .int (nI (if by8 (x_st by8 c q.2.1) = 59 then 3 else 4))) (by first | rfl | (simp only [c62, c85, c144, c238, ↓reduceIte, Bool.not_true, Bool.not_false, Bool.and_true, Bool.true_and, Bool.and_false, Bool.false_and, Bool.or_true, Bool.true_or, Bool.or_false, Bool.false_or, decide_true, decide_false, not_true_eq_false, not_false_eq_true, Bool.false_eq_true, Bool.true_eq_false]; done) | (simp only [c62, c85, c144, c238, ↓reduceIte, Bool.not_true, Bool.not_false, Bool.and_true, Bool.true_and, Bool.and_false, Bool.false_and, Bool.or_true, Bool.true_or, Bool.or_false, Bool.false_or, decide_true, decide_false, not_true_eq_false, not_false_eq_true, Bool.false_eq_true, Bool.true_eq_false]; rfl) | (simp [c62, c85, c144, c238]; done)) ?_
                exact J246
              · refine G.iconst hX (v := 3) (by decide) dX2_advance_241 ?_
                refine G.goto hX (tgt := 246) (by decide) dX2_advance_242 ?_
                refine G.ve (y := .int (nI (if by8 (x_st by8 c q.2.1) = 59 then 3 else 4))) (by first | rfl | (simp only [c62, c85, c144, c238, ↓reduceIte, Bool.not_true, Bool.not_false, Bool.and_true, Bool.true_and, Bool.and_false, Bool.false_and, Bool.or_true, Bool.true_or, Bool.or_false, Bool.false_or, decide_true, decide_false, not_true_eq_false, not_false_eq_true, Bool.false_eq_true, Bool.true_eq_false]; done) | (simp only [c62, c85, c144, c238, ↓reduceIte, Bool.not_true, Bool.not_false, Bool.and_true, Bool.true_and, Bool.and_false, Bool.false_and, Bool.or_true, Bool.true_or, Bool.or_false, Bool.false_or, decide_true, decide_false, not_true_eq_false, not_false_eq_true, Bool.false_eq_true, Bool.true_eq_false]; rfl) | (simp [c62, c85, c144, c238]; done)) ?_
                exact J246
            · refine G.aload_n hX 0 rfl dX2_advance_147 ?_
              refine G.iconst hX (v := 2) (by decide) dX2_advance_148 ?_
              refine G.put hX (ws' := [(xt 0, txO xt (nI c) (nI (x_st by8 c q.2.1)) (nI (x_st by8 c q.2.1)) 2 q.2.2.2), (xt 1, arB E 120 by8)]) inc_X2_advance_2 tyX2 tyX2_ok nmX2 0 rfl rfl 4 (by decide) (by decide +kernel) rfl (tyX2_ok 4 (by decide)) rfl rfl (Nat.le_of_ble_eq_true rfl) rfl rfl dX2_advance_149 ?_
              refine G.aload_n hX 0 rfl dX2_advance_152 ?_
              refine G.iconst hX (v := 0) (by decide) dX2_advance_153 ?_
              refine G.put hX (ws' := [(xt 0, txO xt (nI c) (nI (x_st by8 c q.2.1)) (nI (x_st by8 c q.2.1)) 2 0), (xt 1, arB E 120 by8)]) inc_X2_advance_2 tyX2 tyX2_ok nmX2 0 rfl rfl 5 (by decide) (by decide +kernel) rfl (tyX2_ok 5 (by decide)) rfl rfl (Nat.le_of_ble_eq_true rfl) rfl rfl dX2_advance_154 ?_
              have L157 : ∀ (n : Nat) (i : Nat), i ≤ c - (x_st by8 c q.2.1) → x_eD by8 c (x_st by8 c q.2.1) = ff (x_eDP by8 c) (121 - (x_st by8 c q.2.1 + i)) (x_st by8 c q.2.1 + i) → c + 1 ≤ x_st by8 c q.2.1 + i + n → G E X 1 157 [(0, .ref (xt 0))] [] [(xt 0, txO xt (nI c) (nI (x_st by8 c q.2.1)) (nI (x_st by8 c q.2.1 + i)) 2 (it (x_nS by8 (x_st by8 c q.2.1)) i 0)), (xt 1, arB E 120 by8)] := by
                intro n
                induction n with
                | zero => intro i hl157_0 hl157_1 hl157_2; exact absurd hl157_2 (by omega)
                | succ n ih157 =>
                  intro i hl157_0 hl157_1 hl157_2
                  refine G.aload_n hX 0 rfl dX2_advance_157 ?_
                  refine G.get hX inc_X2_advance_2 0 rfl rfl 3 (by decide) (by decide +kernel) rfl dX2_advance_158 ?_
                  refine G.aload_n hX 0 rfl dX2_advance_161 ?_
                  refine G.get hX inc_X2_advance_2 0 rfl rfl 0 (by decide) (by decide +kernel) rfl dX2_advance_162 ?_
                  refine G.n_ge hX (a := x_st by8 c q.2.1 + i) (b := c) (tgt := 259) (by omega) (by omega) (by decide) dX2_advance_165 (fun c165 => ?_) (fun c165 => ?_)
                  · exact G.vret hX hQ dX2_advance_259 (by first | (rw [x_adv, if_pos c62]; first | done | rfl) | (rw [x_adv, if_pos (show c ≤ x_st by8 c q.2.1 by omega)]; first | done | rfl) | (have e8 : x_eL by8 c (x_st by8 c q.2.1) = i := (by rw [hl93_2]; exact ff_t (by omega) (by first | (simp [x_eLP, c101]; done) | (simp [x_eLP, c116]; done))); simp only [x_adv, hn, c85, ↓reduceIte, e8]; first | done | rfl) | (have e8 : x_eD by8 c (x_st by8 c q.2.1) = x_st by8 c q.2.1 + i := (by rw [hl157_1]; exact ff_t (by omega) (by first | (simp [x_eDP, c165]; done) | (simp [x_eDP, c180]; done))); simp only [x_adv, hn, c85, c144, ↓reduceIte, Bool.false_eq_true, x_nv, e8, Nat.add_sub_cancel_left]; first | done | rfl) | (simp only [x_adv, hn, c85, c144, ↓reduceIte, Bool.false_eq_true]; first | done | rfl))
                  · refine G.aload_n hX 0 rfl dX2_advance_168 ?_
                    refine G.get hX inc_X2_advance_2 0 rfl rfl 1 (by decide) (by decide +kernel) rfl dX2_advance_169 ?_
                    refine G.aload_n hX 0 rfl dX2_advance_172 ?_
                    refine G.get hX inc_X2_advance_2 0 rfl rfl 3 (by decide) (by decide +kernel) rfl dX2_advance_173 ?_
                    refine G.bald hX (j := x_st by8 c q.2.1 + i) 1 rfl (by omega) (by omega) dX2_advance_176 ?_
                    refine G.s0i hX (As := [.int (by8 (x_st by8 c q.2.1 + i))]) (st := []) (c_X2_isDigit _ E (x := by8 (x_st by8 c q.2.1 + i)) ) gX2_advance_X2_isDigit cp_X2_isDigit (by decide) rfl rfl (Nat.le_of_ble_eq_true rfl) dX2_advance_177 ?_
                    refine G.b_eq hX (tgt := 259) (by decide) dX2_advance_180 (fun c180 => ?_) (fun c180 => ?_)
                    · exact G.vret hX hQ dX2_advance_259 (by first | (rw [x_adv, if_pos c62]; first | done | rfl) | (rw [x_adv, if_pos (show c ≤ x_st by8 c q.2.1 by omega)]; first | done | rfl) | (have e8 : x_eL by8 c (x_st by8 c q.2.1) = i := (by rw [hl93_2]; exact ff_t (by omega) (by first | (simp [x_eLP, c101]; done) | (simp [x_eLP, c116]; done))); simp only [x_adv, hn, c85, ↓reduceIte, e8]; first | done | rfl) | (have e8 : x_eD by8 c (x_st by8 c q.2.1) = x_st by8 c q.2.1 + i := (by rw [hl157_1]; exact ff_t (by omega) (by first | (simp [x_eDP, c165]; done) | (simp [x_eDP, c180]; done))); simp only [x_adv, hn, c85, c144, ↓reduceIte, Bool.false_eq_true, x_nv, e8, Nat.add_sub_cancel_left]; first | done | rfl) | (simp only [x_adv, hn, c85, c144, ↓reduceIte, Bool.false_eq_true]; first | done | rfl))
                    · refine G.aload_n hX 0 rfl dX2_advance_183 ?_
                      refine G.bipush hX (v := 10) (by decide) dX2_advance_184 ?_
                      refine G.aload_n hX 0 rfl dX2_advance_186 ?_
                      refine G.get hX inc_X2_advance_2 0 rfl rfl 5 (by decide) (by decide +kernel) rfl dX2_advance_187 ?_
                      refine G.imul hX dX2_advance_190 ?_
                      refine G.aload_n hX 0 rfl dX2_advance_191 ?_
                      refine G.get hX inc_X2_advance_2 0 rfl rfl 1 (by decide) (by decide +kernel) rfl dX2_advance_192 ?_
                      refine G.aload_n hX 0 rfl dX2_advance_195 ?_
                      refine G.get hX inc_X2_advance_2 0 rfl rfl 3 (by decide) (by decide +kernel) rfl dX2_advance_196 ?_
                      refine G.bald hX (j := x_st by8 c q.2.1 + i) 1 rfl (by omega) (by omega) dX2_advance_199 ?_
                      refine G.iadd hX dX2_advance_200 ?_
                      refine G.bipush hX (v := 48) (by decide) dX2_advance_201 ?_
                      refine G.isub hX dX2_advance_203 ?_
                      refine G.sipush hX (v := 1000) (by decide) dX2_advance_204 ?_
                      refine G.mmin hX (by decide +kernel) (by decide +kernel) (by decide +kernel) (by decide +kernel) (by decide) (Nat.le_of_ble_eq_true rfl) dX2_advance_207 ?_
                      refine G.put hX (ws' := [(xt 0, txO xt (nI c) (nI (x_st by8 c q.2.1)) (nI (x_st by8 c q.2.1 + i)) 2 (if 1000 < ((10 * (it (x_nS by8 (x_st by8 c q.2.1)) i 0)) + (by8 (x_st by8 c q.2.1 + i))) - 48 then 1000 else ((10 * (it (x_nS by8 (x_st by8 c q.2.1)) i 0)) + (by8 (x_st by8 c q.2.1 + i))) - 48)), (xt 1, arB E 120 by8)]) inc_X2_advance_2 tyX2 tyX2_ok nmX2 0 rfl rfl 5 (by decide) (by decide +kernel) rfl (tyX2_ok 5 (by decide)) rfl rfl (Nat.le_of_ble_eq_true rfl) rfl rfl dX2_advance_210 ?_
                      refine G.aload_n hX 0 rfl dX2_advance_213 ?_
                      refine G.dup hX rfl dX2_advance_214 ?_
                      refine G.get hX inc_X2_advance_2 0 rfl rfl 3 (by decide) (by decide +kernel) rfl dX2_advance_215 ?_
                      refine G.iconst hX (v := 1) (by decide) dX2_advance_218 ?_
                      refine G.iadd hX dX2_advance_219 ?_
                      refine G.ie (nI_add (x_st by8 c q.2.1 + i) 1) ?_
                      refine G.put hX (ws' := [(xt 0, txO xt (nI c) (nI (x_st by8 c q.2.1)) (nI ((x_st by8 c q.2.1 + i) + 1)) 2 (if 1000 < ((10 * (it (x_nS by8 (x_st by8 c q.2.1)) i 0)) + (by8 (x_st by8 c q.2.1 + i))) - 48 then 1000 else ((10 * (it (x_nS by8 (x_st by8 c q.2.1)) i 0)) + (by8 (x_st by8 c q.2.1 + i))) - 48)), (xt 1, arB E 120 by8)]) inc_X2_advance_2 tyX2 tyX2_ok nmX2 0 rfl rfl 3 (by decide) (by decide +kernel) rfl (tyX2_ok 3 (by decide)) rfl rfl (Nat.le_of_ble_eq_true rfl) rfl rfl dX2_advance_220 ?_
                      refine G.goto hX (tgt := 157) (by decide) dX2_advance_223 ?_
                      refine G.we (ws' := [(xt 0, txO xt (nI c) (nI (x_st by8 c q.2.1)) (nI (x_st by8 c q.2.1 + (i + 1))) 2 (it (x_nS by8 (x_st by8 c q.2.1)) (i + 1) 0)), (xt 1, arB E 120 by8)]) (by rfl) ?_
                      exact ih157 (i + 1) (by omega) (by rw [hl157_1]; exact ff_f (by omega) (by simp [x_eDP, Nat.not_le.mpr c165, c180])) (by omega)
              refine G.we (ws' := [(xt 0, txO xt (nI c) (nI (x_st by8 c q.2.1)) (nI (x_st by8 c q.2.1)) 2 (it (x_nS by8 (x_st by8 c q.2.1)) 0 0)), (xt 1, arB E 120 by8)]) (by rfl) ?_
              exact L157 (c + 1) 0 (by omega) rfl (by omega)
          · refine G.aload_n hX 0 rfl dX2_advance_88 ?_
            refine G.iconst hX (v := 1) (by decide) dX2_advance_89 ?_
            refine G.put hX (ws' := [(xt 0, txO xt (nI c) (nI (x_st by8 c q.2.1)) (nI (x_st by8 c q.2.1)) 1 q.2.2.2), (xt 1, arB E 120 by8)]) inc_X2_advance_2 tyX2 tyX2_ok nmX2 0 rfl rfl 4 (by decide) (by decide +kernel) rfl (tyX2_ok 4 (by decide)) rfl rfl (Nat.le_of_ble_eq_true rfl) rfl rfl dX2_advance_90 ?_
            have L93 : ∀ (n : Nat) (i : Nat), x_st by8 c q.2.1 ≤ i → i ≤ c → x_eL by8 c (x_st by8 c q.2.1) = ff (x_eLP by8 c) (121 - i) i → c + 1 ≤ i + n → G E X 1 93 [(0, .ref (xt 0))] [] [(xt 0, txO xt (nI c) (nI (x_st by8 c q.2.1)) (nI i) 1 q.2.2.2), (xt 1, arB E 120 by8)] := by
              intro n
              induction n with
              | zero => intro i hl93_0 hl93_1 hl93_2 hl93_3; exact absurd hl93_3 (by omega)
              | succ n ih93 =>
                intro i hl93_0 hl93_1 hl93_2 hl93_3
                refine G.aload_n hX 0 rfl dX2_advance_93 ?_
                refine G.get hX inc_X2_advance_2 0 rfl rfl 3 (by decide) (by decide +kernel) rfl dX2_advance_94 ?_
                refine G.aload_n hX 0 rfl dX2_advance_97 ?_
                refine G.get hX inc_X2_advance_2 0 rfl rfl 0 (by decide) (by decide +kernel) rfl dX2_advance_98 ?_
                refine G.n_ge hX (a := i) (b := c) (tgt := 259) (by omega) (by omega) (by decide) dX2_advance_101 (fun c101 => ?_) (fun c101 => ?_)
                · exact G.vret hX hQ dX2_advance_259 (by first | (rw [x_adv, if_pos c62]; first | done | rfl) | (rw [x_adv, if_pos (show c ≤ x_st by8 c q.2.1 by omega)]; first | done | rfl) | (have e8 : x_eL by8 c (x_st by8 c q.2.1) = i := (by rw [hl93_2]; exact ff_t (by omega) (by first | (simp [x_eLP, c101]; done) | (simp [x_eLP, c116]; done))); simp only [x_adv, hn, c85, ↓reduceIte, e8]; first | done | rfl) | (have e8 : x_eD by8 c (x_st by8 c q.2.1) = x_st by8 c q.2.1 + i := (by rw [hl157_1]; exact ff_t (by omega) (by first | (simp [x_eDP, c165]; done) | (simp [x_eDP, c180]; done))); simp only [x_adv, hn, c85, c144, ↓reduceIte, Bool.false_eq_true, x_nv, e8, Nat.add_sub_cancel_left]; first | done | rfl) | (simp only [x_adv, hn, c85, c144, ↓reduceIte, Bool.false_eq_true]; first | done | rfl))
                · refine G.aload_n hX 0 rfl dX2_advance_104 ?_
                  refine G.get hX inc_X2_advance_2 0 rfl rfl 1 (by decide) (by decide +kernel) rfl dX2_advance_105 ?_
                  refine G.aload_n hX 0 rfl dX2_advance_108 ?_
                  refine G.get hX inc_X2_advance_2 0 rfl rfl 3 (by decide) (by decide +kernel) rfl dX2_advance_109 ?_
                  refine G.bald hX (j := i) 1 rfl (by omega) (by omega) dX2_advance_112 ?_
                  refine G.s0i hX (As := [.int (by8 i)]) (st := []) (c_X2_isLetter _ E (x := by8 i) ) gX2_advance_X2_isLetter cp_X2_isLetter (by decide) rfl rfl (Nat.le_of_ble_eq_true rfl) dX2_advance_113 ?_
                  refine G.b_eq hX (tgt := 259) (by decide) dX2_advance_116 (fun c116 => ?_) (fun c116 => ?_)
                  · exact G.vret hX hQ dX2_advance_259 (by first | (rw [x_adv, if_pos c62]; first | done | rfl) | (rw [x_adv, if_pos (show c ≤ x_st by8 c q.2.1 by omega)]; first | done | rfl) | (have e8 : x_eL by8 c (x_st by8 c q.2.1) = i := (by rw [hl93_2]; exact ff_t (by omega) (by first | (simp [x_eLP, c101]; done) | (simp [x_eLP, c116]; done))); simp only [x_adv, hn, c85, ↓reduceIte, e8]; first | done | rfl) | (have e8 : x_eD by8 c (x_st by8 c q.2.1) = x_st by8 c q.2.1 + i := (by rw [hl157_1]; exact ff_t (by omega) (by first | (simp [x_eDP, c165]; done) | (simp [x_eDP, c180]; done))); simp only [x_adv, hn, c85, c144, ↓reduceIte, Bool.false_eq_true, x_nv, e8, Nat.add_sub_cancel_left]; first | done | rfl) | (simp only [x_adv, hn, c85, c144, ↓reduceIte, Bool.false_eq_true]; first | done | rfl))
                  · refine G.aload_n hX 0 rfl dX2_advance_119 ?_
                    refine G.dup hX rfl dX2_advance_120 ?_
                    refine G.get hX inc_X2_advance_2 0 rfl rfl 3 (by decide) (by decide +kernel) rfl dX2_advance_121 ?_
                    refine G.iconst hX (v := 1) (by decide) dX2_advance_124 ?_
                    refine G.iadd hX dX2_advance_125 ?_
                    refine G.ie (nI_add i 1) ?_
                    refine G.put hX (ws' := [(xt 0, txO xt (nI c) (nI (x_st by8 c q.2.1)) (nI (i + 1)) 1 q.2.2.2), (xt 1, arB E 120 by8)]) inc_X2_advance_2 tyX2 tyX2_ok nmX2 0 rfl rfl 3 (by decide) (by decide +kernel) rfl (tyX2_ok 3 (by decide)) rfl rfl (Nat.le_of_ble_eq_true rfl) rfl rfl dX2_advance_126 ?_
                    refine G.goto hX (tgt := 93) (by decide) dX2_advance_129 ?_
                    refine G.we (ws' := [(xt 0, txO xt (nI c) (nI (x_st by8 c q.2.1)) (nI ((i + 1))) 1 q.2.2.2), (xt 1, arB E 120 by8)]) (by rfl) ?_
                    exact ih93 (i + 1) (by omega) (by omega) (by rw [hl93_2]; exact ff_f (by omega) (by simp [x_eLP, Nat.not_le.mpr c101, c116])) (by omega)
            refine G.we (ws' := [(xt 0, txO xt (nI c) (nI (x_st by8 c q.2.1)) (nI ((x_st by8 c q.2.1))) 1 q.2.2.2), (xt 1, arB E 120 by8)]) (by rfl) ?_
            exact L93 (c + 1) (x_st by8 c q.2.1) (Nat.le_refl _) hsc rfl (by omega)
        · refine G.aload_n hX 0 rfl dX2_advance_65 ?_
          refine G.iconst hX (v := 0) (by decide) dX2_advance_66 ?_
          refine G.put hX (ws' := [(xt 0, txO xt (nI c) (nI (x_st by8 c q.2.1)) (nI (x_st by8 c q.2.1)) 0 q.2.2.2), (xt 1, arB E 120 by8)]) inc_X2_advance_2 tyX2 tyX2_ok nmX2 0 rfl rfl 4 (by decide) (by decide +kernel) rfl (tyX2_ok 4 (by decide)) rfl rfl (Nat.le_of_ble_eq_true rfl) rfl rfl dX2_advance_67 ?_
          refine G.goto hX (tgt := 259) (by decide) dX2_advance_70 ?_
          exact G.vret hX hQ dX2_advance_259 (by first | (rw [x_adv, if_pos c62]; first | done | rfl) | (rw [x_adv, if_pos (show c ≤ x_st by8 c q.2.1 by omega)]; first | done | rfl) | (have e8 : x_eL by8 c (x_st by8 c q.2.1) = i := (by rw [hl93_2]; exact ff_t (by omega) (by first | (simp [x_eLP, c101]; done) | (simp [x_eLP, c116]; done))); simp only [x_adv, hn, c85, ↓reduceIte, e8]; first | done | rfl) | (have e8 : x_eD by8 c (x_st by8 c q.2.1) = x_st by8 c q.2.1 + i := (by rw [hl157_1]; exact ff_t (by omega) (by first | (simp [x_eDP, c165]; done) | (simp [x_eDP, c180]; done))); simp only [x_adv, hn, c85, c144, ↓reduceIte, Bool.false_eq_true, x_nv, e8, Nat.add_sub_cancel_left]; first | done | rfl) | (simp only [x_adv, hn, c85, c144, ↓reduceIte, Bool.false_eq_true]; first | done | rfl))
      refine G.aload_n hX 0 rfl dX2_advance_8 ?_
      refine G.get hX inc_X2_advance_2 0 rfl rfl 2 (by decide) (by decide +kernel) rfl dX2_advance_9 ?_
      refine G.aload_n hX 0 rfl dX2_advance_12 ?_
      refine G.get hX inc_X2_advance_2 0 rfl rfl 0 (by decide) (by decide +kernel) rfl dX2_advance_13 ?_
      refine G.n_ge hX (a := j) (b := c) (tgt := 46) (by omega) (by omega) (by decide) dX2_advance_16 (fun c16 => ?_) (fun c16 => ?_)
      · refine G.we (ws' := [(xt 0, txO xt (nI c) (nI (x_st by8 c q.2.1)) (nI q.2.1) (nI q.2.2.1) q.2.2.2), (xt 1, arB E 120 by8)]) (by rw [hl8_2, ff_t (by omega) (by first | (simp [x_stP, c16]; done) | (simp [x_stP, c16]; done))]) ?_
        exact J46
      · refine G.aload_n hX 0 rfl dX2_advance_19 ?_
        refine G.get hX inc_X2_advance_2 0 rfl rfl 1 (by decide) (by decide +kernel) rfl dX2_advance_20 ?_
        refine G.aload_n hX 0 rfl dX2_advance_23 ?_
        refine G.get hX inc_X2_advance_2 0 rfl rfl 2 (by decide) (by decide +kernel) rfl dX2_advance_24 ?_
        refine G.bald hX (j := j) 1 rfl (by omega) (by omega) dX2_advance_27 ?_
        refine G.bipush hX (v := 32) (by decide) dX2_advance_28 ?_
        refine G.icmp_ne hX (tgt := 46) (by decide) dX2_advance_30 (fun c30 => ?_) (fun c30 => ?_)
        · refine G.we (ws' := [(xt 0, txO xt (nI c) (nI (x_st by8 c q.2.1)) (nI q.2.1) (nI q.2.2.1) q.2.2.2), (xt 1, arB E 120 by8)]) (by rw [hl8_2, ff_t (by omega) (by first | (simp [x_stP, c16]; done) | (simp [x_stP, c16, c30]; done))]) ?_
          exact J46
        · refine G.aload_n hX 0 rfl dX2_advance_33 ?_
          refine G.dup hX rfl dX2_advance_34 ?_
          refine G.get hX inc_X2_advance_2 0 rfl rfl 2 (by decide) (by decide +kernel) rfl dX2_advance_35 ?_
          refine G.iconst hX (v := 1) (by decide) dX2_advance_38 ?_
          refine G.iadd hX dX2_advance_39 ?_
          refine G.ie (nI_add j 1) ?_
          refine G.put hX (ws' := [(xt 0, txO xt (nI c) (nI (j + 1)) (nI q.2.1) (nI q.2.2.1) q.2.2.2), (xt 1, arB E 120 by8)]) inc_X2_advance_2 tyX2 tyX2_ok nmX2 0 rfl rfl 2 (by decide) (by decide +kernel) rfl (tyX2_ok 2 (by decide)) rfl rfl (Nat.le_of_ble_eq_true rfl) rfl rfl dX2_advance_40 ?_
          refine G.goto hX (tgt := 8) (by decide) dX2_advance_43 ?_
          refine G.we (ws' := [(xt 0, txO xt (nI c) (nI ((j + 1))) (nI q.2.1) (nI q.2.2.1) q.2.2.2), (xt 1, arB E 120 by8)]) (by rfl) ?_
          exact ih8 (j + 1) (by omega) (by omega) (by rw [hl8_2]; exact ff_f (by omega) (by simp [x_stP, Nat.not_le.mpr c16, c16, c30])) (by omega)
  exact L8 (c + 1) q.2.1 (by omega) (by omega) rfl (by omega)
