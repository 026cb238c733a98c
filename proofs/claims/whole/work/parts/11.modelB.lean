abbrev rmX4_year : Room := { frames := 6, cells := 0, slots := 0, locals := 135 }
theorem cp_X4_year : CP yX4_year RX4 wsX4_year 3 0 rmX4_year := ⟨⟨_, _, _, rfl⟩, rfl, rfl, by decide +kernel⟩
theorem inc_X4_year_4 : ∀ w ∈ u_ws RX4 TX4 19, w ∈ wsX4_year := by decide +kernel
set_option maxHeartbeats 4000000 in
set_option maxRecDepth 100000 in
theorem c_X4_year (l : Launch) (E : EV) (o : Nat → Nat) (ik : Int32) (be : Int32) (so : Int32) (tp : Int32) (fr : Int32) (tq : Int32) (vl : Int32) (wr : Int32) (s : Nat → Int32) (ge : Nat → Int32)  : CV l yX4_year wsX4_year rmX4_year E [.ref (o 0)] [(o 0, moO o ik be so tp fr tq vl wr), (o 1, arI E 122 s), (o 6, arI E 12 ge)] [(o 0, moO o ik be so tp fr tq vl wr), (o 1, arI E 122 (ms_year s)), (o 6, arI E 12 (ms_gets s))] := by
  refine CV.of (own := RX4) (cc := cX4_year) (nL := 3) (rt := none) (by decide) rfl rfl (Nat.le_of_ble_eq_true rfl) (fun X hX hQ => ?_)
  show G E X 3 0 [(0, .ref (o 0))] [] [(o 0, moO o ik be so tp fr tq vl wr), (o 1, arI E 122 s), (o 6, arI E 12 ge)]
  refine G.iconst hX (v := 0) (by decide) dX4_year_0 ?_
  refine G.istore_n hX (lv' := [(1, .int 0), (0, .ref (o 0))]) rfl (by decide) rfl dX4_year_1 ?_
  have L2 : ∀ (n : Nat) (t : Nat), t ≤ 12 → 13 ≤ t + n → G E X 3 2 [(0, .ref (o 0)), (1, .int (nI t))] [] [(o 0, moO o ik be so tp fr tq vl wr), (o 1, arI E 122 (it ms_ageS t s)), (o 6, arI E 12 ge)] := by
    intro n
    induction n with
    | zero => intro t hl2_0 hl2_1; exact absurd hl2_1 (by omega)
    | succ n ih2 =>
      intro t hl2_0 hl2_1
      refine G.iload_n hX 1 rfl dX4_year_2 ?_
      refine G.bipush hX (v := 12) (by decide) dX4_year_3 ?_
      refine G.n_ge hX (a := t) (b := 12) (tgt := 44) (by omega) (by omega) (by decide) dX4_year_5 (fun c5 => ?_) (fun c5 => ?_)
      · obtain rfl : t = 12 := by omega
        refine G.we (ws' := [(o 0, moO o ik be so tp fr tq vl wr), (o 1, arI E 122 (ms_age s)), (o 6, arI E 12 ge)]) (by rfl) ?_
        refine G.iconst hX (v := 0) (by decide) dX4_year_44 ?_
        refine G.istore_n hX (lv' := [(1, .int 0), (0, .ref (o 0))]) rfl (by decide) rfl dX4_year_45 ?_
        have L46 : ∀ (n : Nat) (t2 : Nat), t2 ≤ 12 → 13 ≤ t2 + n → G E X 3 46 [(0, .ref (o 0)), (1, .int (nI t2))] [] [(o 0, moO o ik be so tp fr tq vl wr), (o 1, arI E 122 (ms_age s)), (o 6, arI E 12 (cpN t2 (ms_gets s) ge))] := by
          intro n
          induction n with
          | zero => intro t2 hl46_0 hl46_1; exact absurd hl46_1 (by omega)
          | succ n ih46 =>
            intro t2 hl46_0 hl46_1
            refine G.iload_n hX 1 rfl dX4_year_46 ?_
            refine G.bipush hX (v := 12) (by decide) dX4_year_47 ?_
            refine G.n_ge hX (a := t2) (b := 12) (tgt := 69) (by omega) (by omega) (by decide) dX4_year_49 (fun c49 => ?_) (fun c49 => ?_)
            · obtain rfl : t2 = 12 := by omega
              refine G.ext (g := ms_gets s) 2 rfl (fun j hj => cpN_in hj) rfl ?_
              refine G.iconst hX (v := 0) (by decide) dX4_year_69 ?_
              refine G.istore_n hX (lv' := [(1, .int 0), (0, .ref (o 0))]) rfl (by decide) rfl dX4_year_70 ?_
              have L71 : ∀ (n : Nat) (t3 : Nat), t3 ≤ 12 → 13 ≤ t3 + n → G E X 3 71 [(0, .ref (o 0)), (1, .int (nI t3))] [] [(o 0, moO o ik be so tp fr tq vl wr), (o 1, arI E 122 (it (ms_hearsS (ms_news (ms_age s))) t3 (ms_age s))), (o 6, arI E 12 (ms_gets s))] := by
                intro n
                induction n with
                | zero => intro t3 hl71_0 hl71_1; exact absurd hl71_1 (by omega)
                | succ n ih71 =>
                  intro t3 hl71_0 hl71_1
                  refine G.iload_n hX 1 rfl dX4_year_71 ?_
                  refine G.bipush hX (v := 12) (by decide) dX4_year_72 ?_
                  refine G.n_ge hX (a := t3) (b := 12) (tgt := 95) (by omega) (by omega) (by decide) dX4_year_74 (fun c74 => ?_) (fun c74 => ?_)
                  · obtain rfl : t3 = 12 := by omega
                    refine G.we (ws' := [(o 0, moO o ik be so tp fr tq vl wr), (o 1, arI E 122 (ms_year1 s)), (o 6, arI E 12 (ms_gets s))]) (by rfl) ?_
                    refine G.aload_n hX 0 rfl dX4_year_95 ?_
                    refine G.get hX inc_X4_year_4 0 rfl rfl 0 (by decide) (by decide +kernel) rfl dX4_year_96 ?_
                    refine G.iconst hX (v := 0) (by decide) dX4_year_99 ?_
                    refine G.dup2 hX rfl rfl dX4_year_100 ?_
                    refine G.iald hX (j := 0) 1 rfl (by omega) (by omega) dX4_year_101 ?_
                    refine G.iconst hX (v := 1) (by decide) dX4_year_102 ?_
                    refine G.iadd hX dX4_year_103 ?_
                    refine G.iast hX (j := 0) (ws' := [(o 0, moO o ik be so tp fr tq vl wr), (o 1, arI E 122 (upd (ms_year1 s) 0 (((ms_year1 s) 0) + 1))), (o 6, arI E 12 (ms_gets s))]) 1 rfl (by omega) (by omega) rfl rfl dX4_year_104 ?_
                    exact G.vret hX hQ dX4_year_105 (by first | rfl | (simp only [c5, c49, c74, ↓reduceIte, Bool.not_true, Bool.not_false, Bool.and_true, Bool.true_and, Bool.and_false, Bool.false_and, Bool.or_true, Bool.true_or, Bool.or_false, Bool.false_or, decide_true, decide_false, not_true_eq_false, not_false_eq_true, Bool.false_eq_true, Bool.true_eq_false]; done) | (simp only [c5, c49, c74, ↓reduceIte, Bool.not_true, Bool.not_false, Bool.and_true, Bool.true_and, Bool.and_false, Bool.false_and, Bool.or_true, Bool.true_or, Bool.or_false, Bool.false_or, decide_true, decide_false, not_true_eq_false, not_false_eq_true, Bool.false_eq_true, Bool.true_eq_false]; rfl) | (simp [c5, c49, c74]; done))
                  · refine G.aload_n hX 0 rfl dX4_year_77 ?_
                    refine G.iload_n hX 1 rfl dX4_year_78 ?_
                    refine G.aload_n hX 0 rfl dX4_year_79 ?_
                    refine G.get hX inc_X4_year_4 0 rfl rfl 6 (by decide) (by decide +kernel) rfl dX4_year_80 ?_
                    refine G.iload_n hX 1 rfl dX4_year_83 ?_
                    refine G.iald hX (j := t3) 2 rfl (by omega) (by omega) dX4_year_84 ?_
                    refine G.ie (y := nI (ms_news (ms_age s) t3)) (by rfl) ?_
                    refine G.vi hX (As := [.int (nI t3), .int (nI (ms_news (ms_age s) t3))]) (st := []) (wr := [(o 6, arI E 12 (ms_gets s))]) (wf := [(o 0, moO o ik be so tp fr tq vl wr), (o 1, arI E 122 ((ms_ln (it (ms_hearsS (ms_news (ms_age s))) t3 (ms_age s)) t3 (ms_news (ms_age s) t3)).1)), (o 6, arI E 12 (ms_gets s))]) (q0 := 0) (ci := 4) rfl rfl (c_X4_learns _ E (t := t3) (k := ms_news (ms_age s) t3) (o := o) (ik := ik) (be := be) (so := so) (tp := tp) (fr := fr) (tq := tq) (vl := vl) (wr := wr) (s := it (ms_hearsS (ms_news (ms_age s))) t3 (ms_age s)) (h1 := by omega) (h2 := news_lt _ _)) gX4_year_X4_learns cp_X4_learns (by decide) [0, 1] [2] [1, 2, 0] ⟨rfl, rfl, by decide, rfl⟩ rfl rfl (Nat.le_of_ble_eq_true rfl) dX4_year_85 ?_
                    refine G.istore_n hX (lv' := [(2, .int (nI ((ms_ln (it (ms_hearsS (ms_news (ms_age s))) t3 (ms_age s)) t3 (ms_news (ms_age s) t3)).2))), (0, .ref (o 0)), (1, .int (nI t3))]) rfl (by decide) rfl dX4_year_88 ?_
                    refine G.iinc hX (n := 1) (lv' := [(1, .int (nI (t3 + 1))), (2, .int (nI ((ms_ln (it (ms_hearsS (ms_news (ms_age s))) t3 (ms_age s)) t3 (ms_news (ms_age s) t3)).2))), (0, .ref (o 0))]) 2 rfl (inc_nI t3 1 rfl) (by decide) rfl dX4_year_89 ?_
                    refine G.goto hX (tgt := 71) (by decide) dX4_year_92 ?_
                    refine G.lvp (lv' := [(0, .ref (o 0)), (1, .int (nI (t3 + 1)))]) [2, 0] rfl ?_
                    refine G.lve (lv' := [(0, .ref (o 0)), (1, .int (nI ((t3 + 1))))]) (by rfl) ?_
                    refine G.we (ws' := [(o 0, moO o ik be so tp fr tq vl wr), (o 1, arI E 122 (it (ms_hearsS (ms_news (ms_age s))) (t3 + 1) (ms_age s))), (o 6, arI E 12 (ms_gets s))]) (by rfl) ?_
                    exact ih71 (t3 + 1) (by omega) (by omega)
              refine G.lvp (lv' := [(0, .ref (o 0)), (1, .int 0)]) [1, 0] rfl ?_
              refine G.lve (lv' := [(0, .ref (o 0)), (1, .int (nI 0))]) (by rfl) ?_
              refine G.we (ws' := [(o 0, moO o ik be so tp fr tq vl wr), (o 1, arI E 122 (it (ms_hearsS (ms_news (ms_age s))) 0 (ms_age s))), (o 6, arI E 12 (ms_gets s))]) (by rfl) ?_
              exact L71 13 0 (by omega) (by omega)
            · refine G.aload_n hX 0 rfl dX4_year_52 ?_
              refine G.get hX inc_X4_year_4 0 rfl rfl 6 (by decide) (by decide +kernel) rfl dX4_year_53 ?_
              refine G.iload_n hX 1 rfl dX4_year_56 ?_
              refine G.aload_n hX 0 rfl dX4_year_57 ?_
              refine G.iload_n hX 1 rfl dX4_year_58 ?_
              refine G.vi hX (As := [.int (nI t2)]) (st := [.int (nI t2), .ref (o 6)]) (wr := [(o 6, arI E 12 (cpN t2 (ms_gets s) ge))]) (wf := [(o 0, moO o ik be so tp fr tq vl wr), (o 1, arI E 122 (ms_age s)), (o 6, arI E 12 (cpN t2 (ms_gets s) ge))]) (q0 := 0) (ci := 4) rfl rfl (c_X4_newsOf _ E (t := t2) (o := o) (ik := ik) (be := be) (so := so) (tp := tp) (fr := fr) (tq := tq) (vl := vl) (wr := wr) (s := ms_age s) (h1 := by omega)) gX4_year_X4_newsOf cp_X4_newsOf (by decide) [0, 1] [2] [1, 2, 0] ⟨rfl, rfl, by decide, rfl⟩ rfl rfl (Nat.le_of_ble_eq_true rfl) dX4_year_59 ?_
              refine G.iast hX (j := t2) (ws' := [(o 0, moO o ik be so tp fr tq vl wr), (o 1, arI E 122 (ms_age s)), (o 6, arI E 12 (upd (cpN t2 (ms_gets s) ge) t2 (nI (ms_news (ms_age s) t2))))]) 2 rfl (by omega) (by omega) rfl rfl dX4_year_62 ?_
              refine G.iinc hX (n := 1) (lv' := [(1, .int (nI (t2 + 1))), (0, .ref (o 0))]) 1 rfl (inc_nI t2 1 rfl) (by decide) rfl dX4_year_63 ?_
              refine G.goto hX (tgt := 46) (by decide) dX4_year_66 ?_
              refine G.lvp (lv' := [(0, .ref (o 0)), (1, .int (nI (t2 + 1)))]) [1, 0] rfl ?_
              refine G.lve (lv' := [(0, .ref (o 0)), (1, .int (nI ((t2 + 1))))]) (by rfl) ?_
              refine G.we (ws' := [(o 0, moO o ik be so tp fr tq vl wr), (o 1, arI E 122 (ms_age s)), (o 6, arI E 12 (cpN (t2 + 1) (ms_gets s) ge))]) (by rw [← cpN_s]; rfl) ?_
              exact ih46 (t2 + 1) (by omega) (by omega)
        refine G.lvp (lv' := [(0, .ref (o 0)), (1, .int 0)]) [1, 0] rfl ?_
        refine G.lve (lv' := [(0, .ref (o 0)), (1, .int (nI 0))]) (by rfl) ?_
        refine G.we (ws' := [(o 0, moO o ik be so tp fr tq vl wr), (o 1, arI E 122 (ms_age s)), (o 6, arI E 12 (cpN 0 (ms_gets s) ge))]) (by rw [cpN_0]) ?_
        exact L46 13 0 (by omega) (by omega)
      · refine G.aload_n hX 0 rfl dX4_year_8 ?_
        refine G.get hX inc_X4_year_4 0 rfl rfl 0 (by decide) (by decide +kernel) rfl dX4_year_9 ?_
        refine G.iload_n hX 1 rfl dX4_year_12 ?_
        refine G.iconst hX (v := 1) (by decide) dX4_year_13 ?_
        refine G.s0i hX (As := [.int (nI t), .int 1]) (st := [.ref (o 1)]) (c_X4_spotOf _ E (t := t) (w := 1) ) gX4_year_X4_spotOf cp_X4_spotOf (by decide) rfl rfl (Nat.le_of_ble_eq_true rfl) dX4_year_14 ?_
        refine G.dup2 hX rfl rfl dX4_year_17 ?_
        refine G.iald hX (j := 2 + 10 * t + 1) 1 rfl (by omega) (by omega) dX4_year_18 ?_
        refine G.aload_n hX 0 rfl dX4_year_19 ?_
        refine G.iload_n hX 1 rfl dX4_year_20 ?_
        refine G.iconst hX (v := 1) (by decide) dX4_year_21 ?_
        refine G.vi hX (As := [.int (nI t), .int 1]) (st := [.int ((it ms_ageS t s) (2 + 10 * t + 1)), .int (nI (2 + 10 * t + 1)), .ref (o 1)]) (wr := [(o 6, arI E 12 ge)]) (wf := [(o 0, moO o ik be so tp fr tq vl wr), (o 1, arI E 122 (it ms_ageS t s)), (o 6, arI E 12 ge)]) (q0 := 0) (ci := 4) rfl rfl (c_X4_its _ E (t := t) (w := 1) (o := o) (ik := ik) (be := be) (so := so) (tp := tp) (fr := fr) (tq := tq) (vl := vl) (wr := wr) (s := it ms_ageS t s) (h1 := by omega)) gX4_year_X4_its cp_X4_its (by decide) [0, 1] [2] [1, 2, 0] ⟨rfl, rfl, by decide, rfl⟩ rfl rfl (Nat.le_of_ble_eq_true rfl) dX4_year_22 ?_
        have J36 : G E X 3 36 [(0, .ref (o 0)), (1, .int (nI t))] [.int (if 999 ≤ (it ms_ageS t s) (2 + 10 * t + 1) then 0 else 1), .int ((it ms_ageS t s) (2 + 10 * t + 1)), .int (nI (2 + 10 * t + 1)), .ref (o 1)] [(o 0, moO o ik be so tp fr tq vl wr), (o 1, arI E 122 (it ms_ageS t s)), (o 6, arI E 12 ge)] := by
          refine G.iadd hX dX4_year_36 ?_
          refine G.iast hX (j := 2 + 10 * t + 1) (ws' := [(o 0, moO o ik be so tp fr tq vl wr), (o 1, arI E 122 (upd (it ms_ageS t s) (2 + 10 * t + 1) (((it ms_ageS t s) (2 + 10 * t + 1)) + (if 999 ≤ (it ms_ageS t s) (2 + 10 * t + 1) then 0 else 1)))), (o 6, arI E 12 ge)]) 1 rfl (by omega) (by omega) rfl rfl dX4_year_37 ?_
          refine G.iinc hX (n := 1) (lv' := [(1, .int (nI (t + 1))), (0, .ref (o 0))]) 1 rfl (inc_nI t 1 rfl) (by decide) rfl dX4_year_38 ?_
          refine G.goto hX (tgt := 2) (by decide) dX4_year_41 ?_
          refine G.lvp (lv' := [(0, .ref (o 0)), (1, .int (nI (t + 1)))]) [1, 0] rfl ?_
          refine G.lve (lv' := [(0, .ref (o 0)), (1, .int (nI ((t + 1))))]) (by rfl) ?_
          refine G.we (ws' := [(o 0, moO o ik be so tp fr tq vl wr), (o 1, arI E 122 (it ms_ageS (t + 1) s)), (o 6, arI E 12 ge)]) (by rfl) ?_
          exact ih2 (t + 1) (by omega) (by omega)
        refine G.sipush hX (v := 999) (by decide) dX4_year_25 ?_
        refine G.icmp_ge hX (tgt := 35) (by decide) dX4_year_28 (fun c28 => ?_) (fun c28 => ?_)
        · refine G.iconst hX (v := 0) (by decide) dX4_year_35 ?_
          refine G.ve (y := .int (if 999 ≤ (it ms_ageS t s) (2 + 10 * t + 1) then 0 else 1)) (by first | rfl | (simp only [c5, c28, ↓reduceIte, Bool.not_true, Bool.not_false, Bool.and_true, Bool.true_and, Bool.and_false, Bool.false_and, Bool.or_true, Bool.true_or, Bool.or_false, Bool.false_or, decide_true, decide_false, not_true_eq_false, not_false_eq_true, Bool.false_eq_true, Bool.true_eq_false]; done) | (simp only [c5, c28, ↓reduceIte, Bool.not_true, Bool.not_false, Bool.and_true, Bool.true_and, Bool.and_false, Bool.false_and, Bool.or_true, Bool.true_or, Bool.or_false, Bool.false_or, decide_true, decide_false, not_true_eq_false, not_false_eq_true, Bool.false_eq_true, Bool.true_eq_false]; rfl) | (simp [c5, c28]; done)) ?_
          exact J36
        · refine G.iconst hX (v := 1) (by decide) dX4_year_31 ?_
          refine G.goto hX (tgt := 36) (by decide) dX4_year_32 ?_
          refine G.ve (y := .int (if 999 ≤ (it ms_ageS t s) (2 + 10 * t + 1) then 0 else 1)) (by first | rfl | (simp only [c5, c28, ↓reduceIte, Bool.not_true, Bool.not_false, Bool.and_true, Bool.true_and, Bool.and_false, Bool.false_and, Bool.or_true, Bool.true_or, Bool.or_false, Bool.false_or, decide_true, decide_false, not_true_eq_false, not_false_eq_true, Bool.false_eq_true, Bool.true_eq_false]; done) | (simp only [c5, c28, ↓reduceIte, Bool.not_true, Bool.not_false, Bool.and_true, Bool.true_and, Bool.and_false, Bool.false_and, Bool.or_true, Bool.true_or, Bool.or_false, Bool.false_or, decide_true, decide_false, not_true_eq_false, not_false_eq_true, Bool.false_eq_true, Bool.true_eq_false]; rfl) | (simp [c5, c28]; done)) ?_
          exact J36
  refine G.lvp (lv' := [(0, .ref (o 0)), (1, .int 0)]) [1, 0] rfl ?_
  refine G.lve (lv' := [(0, .ref (o 0)), (1, .int (nI 0))]) (by rfl) ?_
  refine G.we (ws' := [(o 0, moO o ik be so tp fr tq vl wr), (o 1, arI E 122 (it ms_ageS 0 s)), (o 6, arI E 12 ge)]) (by rfl) ?_
  exact L2 13 0 (by omega) (by omega)
abbrev rmX4_yearsGo : Room := { frames := 7, cells := 0, slots := 0, locals := 157 }
theorem cp_X4_yearsGo : CP yX4_yearsGo RX4 wsX4_yearsGo 3 1 rmX4_yearsGo := ⟨⟨_, _, _, rfl⟩, rfl, rfl, by decide +kernel⟩
set_option maxHeartbeats 4000000 in
set_option maxRecDepth 100000 in
theorem c_X4_yearsGo (l : Launch) (E : EV) (n0 : Nat) (o : Nat → Nat) (ik : Int32) (be : Int32) (so : Int32) (tp : Int32) (fr : Int32) (tq : Int32) (vl : Int32) (wr : Int32) (s : Nat → Int32) (ge : Nat → Int32) (h1 : n0 < 1000) : CV l yX4_yearsGo wsX4_yearsGo rmX4_yearsGo E [.ref (o 0), .int (nI n0)] [(o 0, moO o ik be so tp fr tq vl wr), (o 1, arI E 122 s), (o 6, arI E 12 ge)] [(o 0, moO o ik be so tp fr tq vl wr), (o 1, arI E 122 (ms_ys n0 s)), (o 6, arI E 12 (ms_gs n0 s ge))] := by
  refine CV.of (own := RX4) (cc := cX4_yearsGo) (nL := 3) (rt := none) (by decide) rfl rfl (Nat.le_of_ble_eq_true rfl) (fun X hX hQ => ?_)
  show G E X 3 0 [(0, .ref (o 0)), (1, .int (nI n0))] [] [(o 0, moO o ik be so tp fr tq vl wr), (o 1, arI E 122 s), (o 6, arI E 12 ge)]
  refine G.iconst hX (v := 0) (by decide) dX4_yearsGo_0 ?_
  refine G.istore_n hX (lv' := [(2, .int 0), (0, .ref (o 0)), (1, .int (nI n0))]) rfl (by decide) rfl dX4_yearsGo_1 ?_
  have L2 : ∀ (n : Nat) (k : Nat), k ≤ n0 → n0 + 1 ≤ k + n → G E X 3 2 [(0, .ref (o 0)), (1, .int (nI n0)), (2, .int (nI k))] [] [(o 0, moO o ik be so tp fr tq vl wr), (o 1, arI E 122 (ms_ys k s)), (o 6, arI E 12 (ms_gs k s ge))] := by
    intro n
    induction n with
    | zero => intro k hl2_0 hl2_1; exact absurd hl2_1 (by omega)
    | succ n ih2 =>
      intro k hl2_0 hl2_1
      refine G.iload_n hX 2 rfl dX4_yearsGo_2 ?_
      refine G.iload_n hX 1 rfl dX4_yearsGo_3 ?_
      refine G.n_ge hX (a := k) (b := n0) (tgt := 17) (by omega) (by omega) (by decide) dX4_yearsGo_4 (fun c4 => ?_) (fun c4 => ?_)
      · exact G.vret hX hQ dX4_yearsGo_17 (by obtain rfl : k = n0 := (by omega); rfl)
      · refine G.aload_n hX 0 rfl dX4_yearsGo_7 ?_
        refine G.vv hX (As := []) (st := []) (wr := []) (wf := [(o 0, moO o ik be so tp fr tq vl wr), (o 1, arI E 122 (ms_year (ms_ys k s))), (o 6, arI E 12 (ms_gets (ms_ys k s)))]) (q0 := 0) (ci := 4) rfl rfl (c_X4_year _ E (o := o) (ik := ik) (be := be) (so := so) (tp := tp) (fr := fr) (tq := tq) (vl := vl) (wr := wr) (s := ms_ys k s) (ge := ms_gs k s ge) ) gX4_yearsGo_X4_year cp_X4_year (by decide) [0, 1, 2] [] [0, 1, 2] ⟨rfl, rfl, by decide, rfl⟩ rfl rfl (Nat.le_of_ble_eq_true rfl) dX4_yearsGo_8 ?_
        refine G.iinc hX (n := 1) (lv' := [(2, .int (nI (k + 1))), (0, .ref (o 0)), (1, .int (nI n0))]) 2 rfl (inc_nI k 1 rfl) (by decide) rfl dX4_yearsGo_11 ?_
        refine G.goto hX (tgt := 2) (by decide) dX4_yearsGo_14 ?_
        refine G.lvp (lv' := [(0, .ref (o 0)), (1, .int (nI n0)), (2, .int (nI (k + 1)))]) [1, 2, 0] rfl ?_
        refine G.lve (lv' := [(0, .ref (o 0)), (1, .int (nI n0)), (2, .int (nI ((k + 1))))]) (by rfl) ?_
        refine G.we (ws' := [(o 0, moO o ik be so tp fr tq vl wr), (o 1, arI E 122 (ms_ys (k + 1) s)), (o 6, arI E 12 (ms_gs (k + 1) s ge))]) (by rfl) ?_
        exact ih2 (k + 1) (by omega) (by omega)
  refine G.lvp (lv' := [(0, .ref (o 0)), (1, .int (nI n0)), (2, .int 0)]) [1, 2, 0] rfl ?_
  refine G.lve (lv' := [(0, .ref (o 0)), (1, .int (nI n0)), (2, .int (nI 0))]) (by rfl) ?_
  refine G.we (ws' := [(o 0, moO o ik be so tp fr tq vl wr), (o 1, arI E 122 (ms_ys 0 s)), (o 6, arI E 12 (ms_gs 0 s ge))]) (by rfl) ?_
  exact L2 (n0 + 1) 0 (by omega) (by omega)
abbrev rmX4_atHome : Room := { frames := 5, cells := 0, slots := 0, locals := 110 }
theorem cp_X4_atHome : CP yX4_atHome RX4 wsX4_atHome 1 0 rmX4_atHome := ⟨⟨_, _, _, rfl⟩, rfl, rfl, by decide +kernel⟩
set_option maxHeartbeats 4000000 in
set_option maxRecDepth 100000 in
theorem c_X4_atHome (l : Launch) (E : EV) (o : Nat → Nat) (ik : Int32) (be : Int32) (so : Int32) (tp : Int32) (fr : Int32) (tq : Int32) (vl : Int32) (wr : Int32) (s : Nat → Int32)  : CI l yX4_atHome wsX4_atHome rmX4_atHome E [.ref (o 0)] [(o 0, moO o ik be so tp fr tq vl wr), (o 1, arI E 122 s)] [(o 0, moO o ik be so tp fr tq vl wr), (o 1, arI E 122 s)] (nI (ms_home s)) := by
  refine CI.of (own := RX4) (cc := cX4_atHome) (nL := 1) (rt := (some .int)) (by decide) rfl rfl (Nat.le_of_ble_eq_true rfl) (fun X hX hQ => ?_)
  show G E X 1 0 [(0, .ref (o 0))] [] [(o 0, moO o ik be so tp fr tq vl wr), (o 1, arI E 122 s)]
  refine G.aload_n hX 0 rfl dX4_atHome_0 ?_
  refine G.bipush hX (v := 10) (by decide) dX4_atHome_1 ?_
  refine G.vi hX (As := [.int 10]) (st := []) (wr := []) (wf := [(o 0, moO o ik be so tp fr tq vl wr), (o 1, arI E 122 s)]) (q0 := 0) (ci := 4) rfl rfl (c_X4_knownBy _ E (t := 10) (o := o) (ik := ik) (be := be) (so := so) (tp := tp) (fr := fr) (tq := tq) (vl := vl) (wr := wr) (s := s) (h1 := by omega)) gX4_atHome_X4_knownBy cp_X4_knownBy (by decide) [0, 1] [] [0, 1] ⟨rfl, rfl, by decide, rfl⟩ rfl rfl (Nat.le_of_ble_eq_true rfl) dX4_atHome_3 ?_
  refine G.aload_n hX 0 rfl dX4_atHome_6 ?_
  refine G.bipush hX (v := 11) (by decide) dX4_atHome_7 ?_
  refine G.vi hX (As := [.int 11]) (st := [.int (nI (ms_kb s 10))]) (wr := []) (wf := [(o 0, moO o ik be so tp fr tq vl wr), (o 1, arI E 122 s)]) (q0 := 0) (ci := 4) rfl rfl (c_X4_knownBy _ E (t := 11) (o := o) (ik := ik) (be := be) (so := so) (tp := tp) (fr := fr) (tq := tq) (vl := vl) (wr := wr) (s := s) (h1 := by omega)) gX4_atHome_X4_knownBy cp_X4_knownBy (by decide) [0, 1] [] [0, 1] ⟨rfl, rfl, by decide, rfl⟩ rfl rfl (Nat.le_of_ble_eq_true rfl) dX4_atHome_9 ?_
  refine G.ior hX dX4_atHome_12 ?_
  refine G.ie (y := nI (ms_home s)) (by exact nI_or _ _) ?_
  exact G.iret hX hQ dX4_atHome_13 (by rfl) (by rfl)
abbrev rmX4_knownAtAll : Room := { frames := 5, cells := 0, slots := 0, locals := 110 }
theorem cp_X4_knownAtAll : CP yX4_knownAtAll RX4 wsX4_knownAtAll 3 0 rmX4_knownAtAll := ⟨⟨_, _, _, rfl⟩, rfl, rfl, by decide +kernel⟩
set_option maxHeartbeats 4000000 in
set_option maxRecDepth 100000 in
theorem c_X4_knownAtAll (l : Launch) (E : EV) (o : Nat → Nat) (ik : Int32) (be : Int32) (so : Int32) (tp : Int32) (fr : Int32) (tq : Int32) (vl : Int32) (wr : Int32) (s : Nat → Int32)  : CI l yX4_knownAtAll wsX4_knownAtAll rmX4_knownAtAll E [.ref (o 0)] [(o 0, moO o ik be so tp fr tq vl wr), (o 1, arI E 122 s)] [(o 0, moO o ik be so tp fr tq vl wr), (o 1, arI E 122 s)] (nI (ms_all s)) := by
  refine CI.of (own := RX4) (cc := cX4_knownAtAll) (nL := 3) (rt := (some .int)) (by decide) rfl rfl (Nat.le_of_ble_eq_true rfl) (fun X hX hQ => ?_)
  show G E X 3 0 [(0, .ref (o 0))] [] [(o 0, moO o ik be so tp fr tq vl wr), (o 1, arI E 122 s)]
  refine G.iconst hX (v := 0) (by decide) dX4_knownAtAll_0 ?_
  refine G.istore_n hX (lv' := [(1, .int 0), (0, .ref (o 0))]) rfl (by decide) rfl dX4_knownAtAll_1 ?_
  refine G.iconst hX (v := 0) (by decide) dX4_knownAtAll_2 ?_
  refine G.istore_n hX (lv' := [(2, .int 0), (1, .int 0), (0, .ref (o 0))]) rfl (by decide) rfl dX4_knownAtAll_3 ?_
  have L4 : ∀ (n : Nat) (t : Nat), t ≤ 12 → 13 ≤ t + n → G E X 3 4 [(0, .ref (o 0)), (1, .int (nI (it (ms_allS s) t 0))), (2, .int (nI t))] [] [(o 0, moO o ik be so tp fr tq vl wr), (o 1, arI E 122 s)] := by
    intro n
    induction n with
    | zero => intro t hl4_0 hl4_1; exact absurd hl4_1 (by omega)
    | succ n ih4 =>
      intro t hl4_0 hl4_1
      refine G.iload_n hX 2 rfl dX4_knownAtAll_4 ?_
      refine G.bipush hX (v := 12) (by decide) dX4_knownAtAll_5 ?_
      refine G.n_ge hX (a := t) (b := 12) (tgt := 24) (by omega) (by omega) (by decide) dX4_knownAtAll_7 (fun c7 => ?_) (fun c7 => ?_)
      · refine G.iload_n hX 1 rfl dX4_knownAtAll_24 ?_
        exact G.iret hX hQ dX4_knownAtAll_25 (by obtain rfl : t = 12 := (by omega); rfl) (by rfl)
      · refine G.iload_n hX 1 rfl dX4_knownAtAll_10 ?_
        refine G.aload_n hX 0 rfl dX4_knownAtAll_11 ?_
        refine G.iload_n hX 2 rfl dX4_knownAtAll_12 ?_
        refine G.vi hX (As := [.int (nI t)]) (st := [.int (nI (it (ms_allS s) t 0))]) (wr := []) (wf := [(o 0, moO o ik be so tp fr tq vl wr), (o 1, arI E 122 s)]) (q0 := 0) (ci := 4) rfl rfl (c_X4_knownBy _ E (t := t) (o := o) (ik := ik) (be := be) (so := so) (tp := tp) (fr := fr) (tq := tq) (vl := vl) (wr := wr) (s := s) (h1 := by omega)) gX4_knownAtAll_X4_knownBy cp_X4_knownBy (by decide) [0, 1] [] [0, 1] ⟨rfl, rfl, by decide, rfl⟩ rfl rfl (Nat.le_of_ble_eq_true rfl) dX4_knownAtAll_13 ?_
        refine G.ior hX dX4_knownAtAll_16 ?_
        refine G.ie (y := nI (it (ms_allS s) (t + 1) 0)) (by exact nI_or _ _) ?_
        refine G.istore_n hX (lv' := [(1, .int (nI (it (ms_allS s) (t + 1) 0))), (0, .ref (o 0)), (2, .int (nI t))]) rfl (by decide) rfl dX4_knownAtAll_17 ?_
        refine G.iinc hX (n := 1) (lv' := [(2, .int (nI (t + 1))), (1, .int (nI (it (ms_allS s) (t + 1) 0))), (0, .ref (o 0))]) 2 rfl (inc_nI t 1 rfl) (by decide) rfl dX4_knownAtAll_18 ?_
        refine G.goto hX (tgt := 4) (by decide) dX4_knownAtAll_21 ?_
        refine G.lvp (lv' := [(0, .ref (o 0)), (1, .int (nI (it (ms_allS s) (t + 1) 0))), (2, .int (nI (t + 1)))]) [2, 1, 0] rfl ?_
        refine G.lve (lv' := [(0, .ref (o 0)), (1, .int (nI (it (ms_allS s) (t + 1) 0))), (2, .int (nI ((t + 1))))]) (by rfl) ?_
        exact ih4 (t + 1) (by omega) (by omega)
  refine G.lvp (lv' := [(0, .ref (o 0)), (1, .int 0), (2, .int 0)]) [2, 1, 0] rfl ?_
  refine G.lve (lv' := [(0, .ref (o 0)), (1, .int (nI (it (ms_allS s) 0 0))), (2, .int (nI 0))]) (by rfl) ?_
  exact L4 13 0 (by omega) (by omega)
abbrev rmX4_blows : Room := { frames := 6, cells := 0, slots := 0, locals := 132 }
theorem cp_X4_blows : CP yX4_blows RX4 wsX4_blows 4 0 rmX4_blows := ⟨⟨_, _, _, rfl⟩, rfl, rfl, by decide +kernel⟩
set_option maxHeartbeats 4000000 in
set_option maxRecDepth 100000 in
theorem c_X4_blows (l : Launch) (E : EV) (o : Nat → Nat) (ik : Int32) (be : Int32) (so : Int32) (tp : Int32) (fr : Int32) (tq : Int32) (vl : Int32) (wr : Int32) (s : Nat → Int32)  : CI l yX4_blows wsX4_blows rmX4_blows E [.ref (o 0)] [(o 0, moO o ik be so tp fr tq vl wr), (o 1, arI E 122 s)] [(o 0, moO o ik be so tp fr tq vl wr), (o 1, arI E 122 ((ms_bl s).1))] (nI ((ms_bl s).2)) := by
  refine CI.of (own := RX4) (cc := cX4_blows) (nL := 4) (rt := (some .int)) (by decide) rfl rfl (Nat.le_of_ble_eq_true rfl) (fun X hX hQ => ?_)
  show G E X 4 0 [(0, .ref (o 0))] [] [(o 0, moO o ik be so tp fr tq vl wr), (o 1, arI E 122 s)]
  refine G.aload_n hX 0 rfl dX4_blows_0 ?_
  refine G.vi hX (As := []) (st := []) (wr := []) (wf := [(o 0, moO o ik be so tp fr tq vl wr), (o 1, arI E 122 s)]) (q0 := 0) (ci := 4) rfl rfl (c_X4_knownAtAll _ E (o := o) (ik := ik) (be := be) (so := so) (tp := tp) (fr := fr) (tq := tq) (vl := vl) (wr := wr) (s := s) ) gX4_blows_X4_knownAtAll cp_X4_knownAtAll (by decide) [0, 1] [] [0, 1] ⟨rfl, rfl, by decide, rfl⟩ rfl rfl (Nat.le_of_ble_eq_true rfl) dX4_blows_1 ?_
  refine G.istore_n hX (lv' := [(1, .int (nI (ms_all s))), (0, .ref (o 0))]) rfl (by decide) rfl dX4_blows_4 ?_
  refine G.iconst hX (v := 0) (by decide) dX4_blows_5 ?_
  refine G.istore_n hX (lv' := [(2, .int 0), (1, .int (nI (ms_all s))), (0, .ref (o 0))]) rfl (by decide) rfl dX4_blows_6 ?_
  refine G.iconst hX (v := 0) (by decide) dX4_blows_7 ?_
  refine G.istore_n hX (lv' := [(3, .int 0), (2, .int 0), (1, .int (nI (ms_all s))), (0, .ref (o 0))]) rfl (by decide) rfl dX4_blows_8 ?_
  have L9 : ∀ (n : Nat) (t : Nat), t ≤ 12 → 13 ≤ t + n → G E X 4 9 [(0, .ref (o 0)), (1, .int (nI (ms_all s))), (2, .int (nI ((it (ms_blS (ms_all s)) t (s, 0)).2))), (3, .int (nI t))] [] [(o 0, moO o ik be so tp fr tq vl wr), (o 1, arI E 122 ((it (ms_blS (ms_all s)) t (s, 0)).1))] := by
    intro n
    induction n with
    | zero => intro t hl9_0 hl9_1; exact absurd hl9_1 (by omega)
    | succ n ih9 =>
      intro t hl9_0 hl9_1
      refine G.iload_n hX 3 rfl dX4_blows_9 ?_
      refine G.bipush hX (v := 12) (by decide) dX4_blows_10 ?_
      refine G.n_ge hX (a := t) (b := 12) (tgt := 43) (by omega) (by omega) (by decide) dX4_blows_12 (fun c12 => ?_) (fun c12 => ?_)
      · refine G.iload_n hX 2 rfl dX4_blows_43 ?_
        exact G.iret hX hQ dX4_blows_44 (by obtain rfl : t = 12 := (by omega); rfl) (by obtain rfl : t = 12 := (by omega); rfl)
      · have J36 : G E X 4 36 [(0, .ref (o 0)), (1, .int (nI (ms_all s))), (3, .int (nI t))] [.int (nI ((it (ms_blS (ms_all s)) (t + 1) (s, 0)).2))] [(o 0, moO o ik be so tp fr tq vl wr), (o 1, arI E 122 ((it (ms_blS (ms_all s)) (t + 1) (s, 0)).1))] := by
          refine G.istore_n hX (lv' := [(2, .int (nI ((it (ms_blS (ms_all s)) (t + 1) (s, 0)).2))), (0, .ref (o 0)), (1, .int (nI (ms_all s))), (3, .int (nI t))]) rfl (by decide) rfl dX4_blows_36 ?_
          refine G.iinc hX (n := 1) (lv' := [(3, .int (nI (t + 1))), (2, .int (nI ((it (ms_blS (ms_all s)) (t + 1) (s, 0)).2))), (0, .ref (o 0)), (1, .int (nI (ms_all s)))]) 3 rfl (inc_nI t 1 rfl) (by decide) rfl dX4_blows_37 ?_
          refine G.goto hX (tgt := 9) (by decide) dX4_blows_40 ?_
          refine G.lvp (lv' := [(0, .ref (o 0)), (1, .int (nI (ms_all s))), (2, .int (nI ((it (ms_blS (ms_all s)) (t + 1) (s, 0)).2))), (3, .int (nI (t + 1)))]) [2, 3, 1, 0] rfl ?_
          refine G.lve (lv' := [(0, .ref (o 0)), (1, .int (nI (ms_all s))), (2, .int (nI ((it (ms_blS (ms_all s)) (t + 1) (s, 0)).2))), (3, .int (nI ((t + 1))))]) (by rfl) ?_
          exact ih9 (t + 1) (by omega) (by omega)
        refine G.iload_n hX 2 rfl dX4_blows_15 ?_
        refine G.aload_n hX 0 rfl dX4_blows_16 ?_
        refine G.iload_n hX 3 rfl dX4_blows_17 ?_
        refine G.iconst hX (v := 1) (by decide) dX4_blows_18 ?_
        refine G.vi hX (As := [.int (nI t), .int 1]) (st := [.int (nI ((it (ms_blS (ms_all s)) t (s, 0)).2))]) (wr := []) (wf := [(o 0, moO o ik be so tp fr tq vl wr), (o 1, arI E 122 ((it (ms_blS (ms_all s)) t (s, 0)).1))]) (q0 := 0) (ci := 4) rfl rfl (c_X4_isHearing _ E (t := t) (b := true) (o := o) (ik := ik) (be := be) (so := so) (tp := tp) (fr := fr) (tq := tq) (vl := vl) (wr := wr) (s := (it (ms_blS (ms_all s)) t (s, 0)).1) (h1 := by omega)) gX4_blows_X4_isHearing cp_X4_isHearing (by decide) [0, 1] [] [0, 1] ⟨rfl, rfl, by decide, rfl⟩ rfl rfl (Nat.le_of_ble_eq_true rfl) dX4_blows_19 ?_
        refine G.b_eq hX (tgt := 34) (by decide) dX4_blows_22 (fun c22 => ?_) (fun c22 => ?_)
        · refine G.iconst hX (v := 0) (by decide) dX4_blows_34 ?_
          refine G.iadd hX dX4_blows_35 ?_
          refine G.ie (nI_add ((it (ms_blS (ms_all s)) t (s, 0)).2) 0) ?_
          refine G.lvp (lv' := [(0, .ref (o 0)), (1, .int (nI (ms_all s))), (3, .int (nI t))]) [0, 1, 3] rfl ?_
          refine G.ie (y := nI ((it (ms_blS (ms_all s)) (t + 1) (s, 0)).2)) (by simp only [it_s, ms_blS, c12, c22, ↓reduceIte, Nat.add_zero, Bool.false_eq_true]) ?_
          refine G.we (ws' := [(o 0, moO o ik be so tp fr tq vl wr), (o 1, arI E 122 ((it (ms_blS (ms_all s)) (t + 1) (s, 0)).1))]) (by simp only [it_s, ms_blS, c12, c22, ↓reduceIte, Nat.add_zero, Bool.false_eq_true]) ?_
          exact J36
        · refine G.aload_n hX 0 rfl dX4_blows_25 ?_
          refine G.iload_n hX 3 rfl dX4_blows_26 ?_
          refine G.iload_n hX 1 rfl dX4_blows_27 ?_
          refine G.vi hX (As := [.int (nI t), .int (nI (ms_all s))]) (st := [.int (nI ((it (ms_blS (ms_all s)) t (s, 0)).2))]) (wr := []) (wf := [(o 0, moO o ik be so tp fr tq vl wr), (o 1, arI E 122 ((ms_ln ((it (ms_blS (ms_all s)) t (s, 0)).1) t (ms_all s)).1))]) (q0 := 0) (ci := 4) rfl rfl (c_X4_learns _ E (t := t) (k := ms_all s) (o := o) (ik := ik) (be := be) (so := so) (tp := tp) (fr := fr) (tq := tq) (vl := vl) (wr := wr) (s := (it (ms_blS (ms_all s)) t (s, 0)).1) (h1 := by omega) (h2 := all_lt _)) gX4_blows_X4_learns cp_X4_learns (by decide) [0, 1] [] [0, 1] ⟨rfl, rfl, by decide, rfl⟩ rfl rfl (Nat.le_of_ble_eq_true rfl) dX4_blows_28 ?_
          refine G.goto hX (tgt := 35) (by decide) dX4_blows_31 ?_
          refine G.iadd hX dX4_blows_35 ?_
          refine G.ie (nI_add ((it (ms_blS (ms_all s)) t (s, 0)).2) ((ms_ln ((it (ms_blS (ms_all s)) t (s, 0)).1) t (ms_all s)).2)) ?_
          refine G.lvp (lv' := [(0, .ref (o 0)), (1, .int (nI (ms_all s))), (3, .int (nI t))]) [0, 1, 3] rfl ?_
          refine G.ie (y := nI ((it (ms_blS (ms_all s)) (t + 1) (s, 0)).2)) (by simp only [it_s, ms_blS, c12, c22, ↓reduceIte, Nat.add_zero, Bool.false_eq_true]) ?_
          refine G.we (ws' := [(o 0, moO o ik be so tp fr tq vl wr), (o 1, arI E 122 ((it (ms_blS (ms_all s)) (t + 1) (s, 0)).1))]) (by simp only [it_s, ms_blS, c12, c22, ↓reduceIte, Nat.add_zero, Bool.false_eq_true]) ?_
          exact J36
  refine G.lvp (lv' := [(0, .ref (o 0)), (1, .int (nI (ms_all s))), (2, .int 0), (3, .int 0)]) [3, 2, 1, 0] rfl ?_
  refine G.lve (lv' := [(0, .ref (o 0)), (1, .int (nI (ms_all s))), (2, .int (nI ((it (ms_blS (ms_all s)) 0 (s, 0)).2))), (3, .int (nI 0))]) (by rfl) ?_
  refine G.we (ws' := [(o 0, moO o ik be so tp fr tq vl wr), (o 1, arI E 122 ((it (ms_blS (ms_all s)) 0 (s, 0)).1))]) (by rfl) ?_
  exact L9 13 0 (by omega) (by omega)
abbrev rmX4_knownTogether : Room := { frames := 5, cells := 0, slots := 0, locals := 110 }
theorem cp_X4_knownTogether : CP yX4_knownTogether RX4 wsX4_knownTogether 3 0 rmX4_knownTogether := ⟨⟨_, _, _, rfl⟩, rfl, rfl, by decide +kernel⟩
set_option maxHeartbeats 4000000 in
set_option maxRecDepth 100000 in
theorem c_X4_knownTogether (l : Launch) (E : EV) (o : Nat → Nat) (ik : Int32) (be : Int32) (so : Int32) (tp : Int32) (fr : Int32) (tq : Int32) (vl : Int32) (wr : Int32) (s : Nat → Int32)  : CI l yX4_knownTogether wsX4_knownTogether rmX4_knownTogether E [.ref (o 0)] [(o 0, moO o ik be so tp fr tq vl wr), (o 1, arI E 122 s)] [(o 0, moO o ik be so tp fr tq vl wr), (o 1, arI E 122 s)] (nI (ms_tog s)) := by
  refine CI.of (own := RX4) (cc := cX4_knownTogether) (nL := 3) (rt := (some .int)) (by decide) rfl rfl (Nat.le_of_ble_eq_true rfl) (fun X hX hQ => ?_)
  show G E X 3 0 [(0, .ref (o 0))] [] [(o 0, moO o ik be so tp fr tq vl wr), (o 1, arI E 122 s)]
  refine G.iconst hX (v := 0) (by decide) dX4_knownTogether_0 ?_
  refine G.istore_n hX (lv' := [(1, .int 0), (0, .ref (o 0))]) rfl (by decide) rfl dX4_knownTogether_1 ?_
  refine G.iconst hX (v := 0) (by decide) dX4_knownTogether_2 ?_
  refine G.istore_n hX (lv' := [(2, .int 0), (1, .int 0), (0, .ref (o 0))]) rfl (by decide) rfl dX4_knownTogether_3 ?_
  have L4 : ∀ (n : Nat) (t : Nat), t ≤ 12 → 13 ≤ t + n → G E X 3 4 [(0, .ref (o 0)), (1, .int (nI (it (ms_togS s) t 0))), (2, .int (nI t))] [] [(o 0, moO o ik be so tp fr tq vl wr), (o 1, arI E 122 s)] := by
    intro n
    induction n with
    | zero => intro t hl4_0 hl4_1; exact absurd hl4_1 (by omega)
    | succ n ih4 =>
      intro t hl4_0 hl4_1
      refine G.iload_n hX 2 rfl dX4_knownTogether_4 ?_
      refine G.bipush hX (v := 12) (by decide) dX4_knownTogether_5 ?_
      refine G.n_ge hX (a := t) (b := 12) (tgt := 27) (by omega) (by omega) (by decide) dX4_knownTogether_7 (fun c7 => ?_) (fun c7 => ?_)
      · refine G.iload_n hX 1 rfl dX4_knownTogether_27 ?_
        exact G.iret hX hQ dX4_knownTogether_28 (by obtain rfl : t = 12 := (by omega); rfl) (by rfl)
      · refine G.iload_n hX 1 rfl dX4_knownTogether_10 ?_
        refine G.aload_n hX 0 rfl dX4_knownTogether_11 ?_
        refine G.iload_n hX 2 rfl dX4_knownTogether_12 ?_
        refine G.vi hX (As := [.int (nI t)]) (st := [.int (nI (it (ms_togS s) t 0))]) (wr := []) (wf := [(o 0, moO o ik be so tp fr tq vl wr), (o 1, arI E 122 s)]) (q0 := 0) (ci := 4) rfl rfl (c_X4_knownBy _ E (t := t) (o := o) (ik := ik) (be := be) (so := so) (tp := tp) (fr := fr) (tq := tq) (vl := vl) (wr := wr) (s := s) (h1 := by omega)) gX4_knownTogether_X4_knownBy cp_X4_knownBy (by decide) [0, 1] [] [0, 1] ⟨rfl, rfl, by decide, rfl⟩ rfl rfl (Nat.le_of_ble_eq_true rfl) dX4_knownTogether_13 ?_
        refine G.s0i hX (As := [.int (nI (ms_kb s t))]) (st := [.int (nI (it (ms_togS s) t 0))]) (c_X4_ones _ E (k := ms_kb s t) (h1 := kb_lt _ _)) gX4_knownTogether_X4_ones cp_X4_ones (by decide) rfl rfl (Nat.le_of_ble_eq_true rfl) dX4_knownTogether_16 ?_
        refine G.iadd hX dX4_knownTogether_19 ?_
        refine G.ie (y := nI (it (ms_togS s) (t + 1) 0)) (by exact nI_add _ _) ?_
        refine G.istore_n hX (lv' := [(1, .int (nI (it (ms_togS s) (t + 1) 0))), (0, .ref (o 0)), (2, .int (nI t))]) rfl (by decide) rfl dX4_knownTogether_20 ?_
        refine G.iinc hX (n := 1) (lv' := [(2, .int (nI (t + 1))), (1, .int (nI (it (ms_togS s) (t + 1) 0))), (0, .ref (o 0))]) 2 rfl (inc_nI t 1 rfl) (by decide) rfl dX4_knownTogether_21 ?_
        refine G.goto hX (tgt := 4) (by decide) dX4_knownTogether_24 ?_
        refine G.lvp (lv' := [(0, .ref (o 0)), (1, .int (nI (it (ms_togS s) (t + 1) 0))), (2, .int (nI (t + 1)))]) [2, 1, 0] rfl ?_
        refine G.lve (lv' := [(0, .ref (o 0)), (1, .int (nI (it (ms_togS s) (t + 1) 0))), (2, .int (nI ((t + 1))))]) (by rfl) ?_
        exact ih4 (t + 1) (by omega) (by omega)
  refine G.lvp (lv' := [(0, .ref (o 0)), (1, .int 0), (2, .int 0)]) [2, 1, 0] rfl ?_
  refine G.lve (lv' := [(0, .ref (o 0)), (1, .int (nI (it (ms_togS s) 0 0))), (2, .int (nI 0))]) (by rfl) ?_
  exact L4 13 0 (by omega) (by omega)
abbrev rmX4_ages : Room := { frames := 2, cells := 0, slots := 0, locals := 43 }
theorem cp_X4_ages : CP yX4_ages RX4 wsX4_ages 3 0 rmX4_ages := ⟨⟨_, _, _, rfl⟩, rfl, rfl, by decide +kernel⟩
set_option maxHeartbeats 4000000 in
set_option maxRecDepth 100000 in
theorem c_X4_ages (l : Launch) (E : EV) (o : Nat → Nat) (ik : Int32) (be : Int32) (so : Int32) (tp : Int32) (fr : Int32) (tq : Int32) (vl : Int32) (wr : Int32) (s : Nat → Int32)  : CI l yX4_ages wsX4_ages rmX4_ages E [.ref (o 0)] [(o 0, moO o ik be so tp fr tq vl wr), (o 1, arI E 122 s)] [(o 0, moO o ik be so tp fr tq vl wr), (o 1, arI E 122 s)] (ms_ages s) := by
  refine CI.of (own := RX4) (cc := cX4_ages) (nL := 3) (rt := (some .int)) (by decide) rfl rfl (Nat.le_of_ble_eq_true rfl) (fun X hX hQ => ?_)
  show G E X 3 0 [(0, .ref (o 0))] [] [(o 0, moO o ik be so tp fr tq vl wr), (o 1, arI E 122 s)]
  refine G.iconst hX (v := 0) (by decide) dX4_ages_0 ?_
  refine G.istore_n hX (lv' := [(1, .int 0), (0, .ref (o 0))]) rfl (by decide) rfl dX4_ages_1 ?_
  refine G.iconst hX (v := 0) (by decide) dX4_ages_2 ?_
  refine G.istore_n hX (lv' := [(2, .int 0), (1, .int 0), (0, .ref (o 0))]) rfl (by decide) rfl dX4_ages_3 ?_
  have L4 : ∀ (n : Nat) (t : Nat), t ≤ 12 → 13 ≤ t + n → G E X 3 4 [(0, .ref (o 0)), (1, .int (it (ms_agesS s) t 0)), (2, .int (nI t))] [] [(o 0, moO o ik be so tp fr tq vl wr), (o 1, arI E 122 s)] := by
    intro n
    induction n with
    | zero => intro t hl4_0 hl4_1; exact absurd hl4_1 (by omega)
    | succ n ih4 =>
      intro t hl4_0 hl4_1
      refine G.iload_n hX 2 rfl dX4_ages_4 ?_
      refine G.bipush hX (v := 12) (by decide) dX4_ages_5 ?_
      refine G.n_ge hX (a := t) (b := 12) (tgt := 25) (by omega) (by omega) (by decide) dX4_ages_7 (fun c7 => ?_) (fun c7 => ?_)
      · refine G.iload_n hX 1 rfl dX4_ages_25 ?_
        exact G.iret hX hQ dX4_ages_26 (by obtain rfl : t = 12 := (by omega); rfl) (by rfl)
      · refine G.iload_n hX 1 rfl dX4_ages_10 ?_
        refine G.aload_n hX 0 rfl dX4_ages_11 ?_
        refine G.iload_n hX 2 rfl dX4_ages_12 ?_
        refine G.iconst hX (v := 1) (by decide) dX4_ages_13 ?_
        refine G.vi hX (As := [.int (nI t), .int 1]) (st := [.int (it (ms_agesS s) t 0)]) (wr := []) (wf := [(o 0, moO o ik be so tp fr tq vl wr), (o 1, arI E 122 s)]) (q0 := 0) (ci := 4) rfl rfl (c_X4_its _ E (t := t) (w := 1) (o := o) (ik := ik) (be := be) (so := so) (tp := tp) (fr := fr) (tq := tq) (vl := vl) (wr := wr) (s := s) (h1 := by omega)) gX4_ages_X4_its cp_X4_its (by decide) [0, 1] [] [0, 1] ⟨rfl, rfl, by decide, rfl⟩ rfl rfl (Nat.le_of_ble_eq_true rfl) dX4_ages_14 ?_
        refine G.iadd hX dX4_ages_17 ?_
        refine G.istore_n hX (lv' := [(1, .int ((it (ms_agesS s) t 0) + (s (2 + 10 * t + 1)))), (0, .ref (o 0)), (2, .int (nI t))]) rfl (by decide) rfl dX4_ages_18 ?_
        refine G.iinc hX (n := 1) (lv' := [(2, .int (nI (t + 1))), (1, .int ((it (ms_agesS s) t 0) + (s (2 + 10 * t + 1)))), (0, .ref (o 0))]) 2 rfl (inc_nI t 1 rfl) (by decide) rfl dX4_ages_19 ?_
        refine G.goto hX (tgt := 4) (by decide) dX4_ages_22 ?_
        refine G.lvp (lv' := [(0, .ref (o 0)), (1, .int ((it (ms_agesS s) t 0) + (s (2 + 10 * t + 1)))), (2, .int (nI (t + 1)))]) [2, 1, 0] rfl ?_
        refine G.lve (lv' := [(0, .ref (o 0)), (1, .int (it (ms_agesS s) (t + 1) 0)), (2, .int (nI ((t + 1))))]) (by rfl) ?_
        exact ih4 (t + 1) (by omega) (by omega)
  refine G.lvp (lv' := [(0, .ref (o 0)), (1, .int 0), (2, .int 0)]) [2, 1, 0] rfl ?_
  refine G.lve (lv' := [(0, .ref (o 0)), (1, .int (it (ms_agesS s) 0 0)), (2, .int (nI 0))]) (by rfl) ?_
  exact L4 13 0 (by omega) (by omega)
abbrev rmX4_of : Room := { frames := 5, cells := 0, slots := 0, locals := 110 }
theorem cp_X4_of : CP yX4_of RX4 wsX4_of 3 2 rmX4_of := ⟨⟨_, _, _, rfl⟩, rfl, rfl, by decide +kernel⟩
set_option maxHeartbeats 4000000 in
set_option maxRecDepth 100000 in
theorem c_X4_ofbad (l : Launch) (E : EV) (x : Int32) (y : Int32) (o : Nat → Nat) (ik : Int32) (be : Int32) (so : Int32) (tp : Int32) (fr : Int32) (tq : Int32) (vl : Int32) (wr : Int32) (stt : Nat → Int32) (h1 : (inI x 0 11 && inI y 0 5) = false) : CI l yX4_of wsX4_of rmX4_of E [.ref (o 0), .int x, .int y] [(o 0, moO o ik be so tp fr tq vl wr), (o 5, arI E 7 stt)] [(o 0, moO o ik be so tp fr tq vl wr), (o 5, arI E 7 (upd stt 0 (stt 0 + 1)))] ((-1000000001)) := by
  refine CI.of (own := RX4) (cc := cX4_of) (nL := 3) (rt := (some .int)) (by decide) rfl rfl (Nat.le_of_ble_eq_true rfl) (fun X hX hQ => ?_)
  show G E X 3 0 [(0, .ref (o 0)), (1, .int x), (2, .int y)] [] [(o 0, moO o ik be so tp fr tq vl wr), (o 5, arI E 7 stt)]
  refine G.iload_n hX 1 rfl dX4_of_0 ?_
  refine G.s0i hX (As := [.int x]) (st := []) (c_X4_isTree _ E (x := x) ) gX4_of_X4_isTree cp_X4_isTree (by decide) rfl rfl (Nat.le_of_ble_eq_true rfl) dX4_of_1 ?_
  refine G.b_eq hX (tgt := 19) (by decide) dX4_of_4 (fun c4 => ?_) (fun c4 => ?_)
  · refine G.aload_n hX 0 rfl dX4_of_19 ?_
    refine G.ldc hX (v := -1000000001) (by decide +kernel) dX4_of_20 ?_
    refine G.vi hX (As := [.int ((-1000000001))]) (st := []) (wr := []) (wf := [(o 0, moO o ik be so tp fr tq vl wr), (o 5, arI E 7 (upd stt 0 (stt 0 + 1)))]) (q0 := 0) (ci := 4) rfl rfl (c_X4_finds0 _ E (o := o) (ik := ik) (be := be) (so := so) (tp := tp) (fr := fr) (tq := tq) (vl := vl) (wr := wr) (stt := stt) ) gX4_of_X4_finds cp_X4_finds (by decide) [0, 1] [] [0, 1] ⟨rfl, rfl, by decide, rfl⟩ rfl rfl (Nat.le_of_ble_eq_true rfl) dX4_of_22 ?_
    exact G.iret hX hQ dX4_of_25 (by rfl) (by rfl)
  · refine G.iload_n hX 2 rfl dX4_of_7 ?_
    refine G.i2l hX dX4_of_8 ?_
    refine G.lconst hX (v := 0) (by decide) dX4_of_9 ?_
    refine G.ldc2 hX (v := 5) (by decide +kernel) dX4_of_10 ?_
    refine G.s0i hX (As := [.long y.toInt64, .long 0, .long 5]) (st := []) (c_X4_in _ E (v := y.toInt64) (lo := 0) (hi := 5) ) gX4_of_X4_in cp_X4_in (by decide) rfl rfl (Nat.le_of_ble_eq_true rfl) dX4_of_13 ?_
    refine G.ie (y := bI (inI y 0 5)) rfl ?_
    refine G.b_ne hX (tgt := 26) (by decide) dX4_of_16 (fun c16 => ?_) (fun c16 => ?_)
    · exact absurd h1 (by simp [c4, c16])
    · refine G.aload_n hX 0 rfl dX4_of_19 ?_
      refine G.ldc hX (v := -1000000001) (by decide +kernel) dX4_of_20 ?_
      refine G.vi hX (As := [.int ((-1000000001))]) (st := []) (wr := []) (wf := [(o 0, moO o ik be so tp fr tq vl wr), (o 5, arI E 7 (upd stt 0 (stt 0 + 1)))]) (q0 := 0) (ci := 4) rfl rfl (c_X4_finds0 _ E (o := o) (ik := ik) (be := be) (so := so) (tp := tp) (fr := fr) (tq := tq) (vl := vl) (wr := wr) (stt := stt) ) gX4_of_X4_finds cp_X4_finds (by decide) [0, 1] [] [0, 1] ⟨rfl, rfl, by decide, rfl⟩ rfl rfl (Nat.le_of_ble_eq_true rfl) dX4_of_22 ?_
      exact G.iret hX hQ dX4_of_25 (by rfl) (by rfl)
set_option maxHeartbeats 4000000 in
set_option maxRecDepth 100000 in
theorem c_X4_of0 (l : Launch) (E : EV) (t : Nat) (o : Nat → Nat) (ik : Int32) (be : Int32) (so : Int32) (tp : Int32) (fr : Int32) (tq : Int32) (vl : Int32) (wr : Int32) (s : Nat → Int32) (h1 : t < 12) : CI l yX4_of wsX4_of rmX4_of E [.ref (o 0), .int (nI t), .int 0] [(o 0, moO o ik be so tp fr tq vl wr), (o 1, arI E 122 s)] [(o 0, moO o ik be so tp fr tq vl wr), (o 1, arI E 122 s)] (s (2 + 10 * t)) := by
  refine CI.of (own := RX4) (cc := cX4_of) (nL := 3) (rt := (some .int)) (by decide) rfl rfl (Nat.le_of_ble_eq_true rfl) (fun X hX hQ => ?_)
  show G E X 3 0 [(0, .ref (o 0)), (1, .int (nI t)), (2, .int 0)] [] [(o 0, moO o ik be so tp fr tq vl wr), (o 1, arI E 122 s)]
  refine G.iload_n hX 1 rfl dX4_of_0 ?_
  refine G.s0i hX (As := [.int (nI t)]) (st := []) (c_X4_isTreen _ E (x := t) (h1 := by omega)) gX4_of_X4_isTree cp_X4_isTree (by decide) rfl rfl (Nat.le_of_ble_eq_true rfl) dX4_of_1 ?_
  refine G.if_eq hX (tgt := 19) (by decide) dX4_of_4 (fun c4 => absurd c4 (by decide)) (fun _ => ?_)
  refine G.iload_n hX 2 rfl dX4_of_7 ?_
  refine G.i2l hX dX4_of_8 ?_
  refine G.le (y := 0) (by decide) ?_
  refine G.lconst hX (v := 0) (by decide) dX4_of_9 ?_
  refine G.ldc2 hX (v := 5) (by decide +kernel) dX4_of_10 ?_
  refine G.s0i hX (As := [.long 0, .long 0, .long 5]) (st := []) (c_X4_inn _ E (v := 0) (lo := 0) (hi := 5) (h1 := by omega) (h2 := by omega) (h3 := by omega)) gX4_of_X4_in cp_X4_in (by decide) rfl rfl (Nat.le_of_ble_eq_true rfl) dX4_of_13 ?_
  refine G.if_ne hX (tgt := 26) (by decide) dX4_of_16 (fun _ => ?_) (fun c16 => absurd c16 (by decide))
  refine G.iload_n hX 2 rfl dX4_of_26 ?_
  refine G.tout hX (tgt := 89) dX4_of_27 (by decide) (by decide) ?_
  refine G.aload_n hX 0 rfl dX4_of_89 ?_
  refine G.iload_n hX 1 rfl dX4_of_90 ?_
  refine G.iload_n hX 2 rfl dX4_of_91 ?_
  refine G.vi hX (As := [.int (nI t), .int 0]) (st := []) (wr := []) (wf := [(o 0, moO o ik be so tp fr tq vl wr), (o 1, arI E 122 s)]) (q0 := 0) (ci := 4) rfl rfl (c_X4_its _ E (t := t) (w := 0) (o := o) (ik := ik) (be := be) (so := so) (tp := tp) (fr := fr) (tq := tq) (vl := vl) (wr := wr) (s := s) (h1 := by omega)) gX4_of_X4_its cp_X4_its (by decide) [0, 1] [] [0, 1] ⟨rfl, rfl, by decide, rfl⟩ rfl rfl (Nat.le_of_ble_eq_true rfl) dX4_of_92 ?_
  refine G.ie (y := s (2 + 10 * t)) rfl ?_
  exact G.iret hX hQ dX4_of_95 (by rfl) (by rfl)
set_option maxHeartbeats 4000000 in
set_option maxRecDepth 100000 in
theorem c_X4_of1 (l : Launch) (E : EV) (t : Nat) (o : Nat → Nat) (ik : Int32) (be : Int32) (so : Int32) (tp : Int32) (fr : Int32) (tq : Int32) (vl : Int32) (wr : Int32) (s : Nat → Int32) (h1 : t < 12) : CI l yX4_of wsX4_of rmX4_of E [.ref (o 0), .int (nI t), .int 1] [(o 0, moO o ik be so tp fr tq vl wr), (o 1, arI E 122 s)] [(o 0, moO o ik be so tp fr tq vl wr), (o 1, arI E 122 s)] (s (2 + 10 * t + 1)) := by
  refine CI.of (own := RX4) (cc := cX4_of) (nL := 3) (rt := (some .int)) (by decide) rfl rfl (Nat.le_of_ble_eq_true rfl) (fun X hX hQ => ?_)
  show G E X 3 0 [(0, .ref (o 0)), (1, .int (nI t)), (2, .int 1)] [] [(o 0, moO o ik be so tp fr tq vl wr), (o 1, arI E 122 s)]
  refine G.iload_n hX 1 rfl dX4_of_0 ?_
  refine G.s0i hX (As := [.int (nI t)]) (st := []) (c_X4_isTreen _ E (x := t) (h1 := by omega)) gX4_of_X4_isTree cp_X4_isTree (by decide) rfl rfl (Nat.le_of_ble_eq_true rfl) dX4_of_1 ?_
  refine G.if_eq hX (tgt := 19) (by decide) dX4_of_4 (fun c4 => absurd c4 (by decide)) (fun _ => ?_)
  refine G.iload_n hX 2 rfl dX4_of_7 ?_
  refine G.i2l hX dX4_of_8 ?_
  refine G.le (y := 1) (by decide) ?_
  refine G.lconst hX (v := 0) (by decide) dX4_of_9 ?_
  refine G.ldc2 hX (v := 5) (by decide +kernel) dX4_of_10 ?_
  refine G.s0i hX (As := [.long 1, .long 0, .long 5]) (st := []) (c_X4_inn _ E (v := 1) (lo := 0) (hi := 5) (h1 := by omega) (h2 := by omega) (h3 := by omega)) gX4_of_X4_in cp_X4_in (by decide) rfl rfl (Nat.le_of_ble_eq_true rfl) dX4_of_13 ?_
  refine G.if_ne hX (tgt := 26) (by decide) dX4_of_16 (fun _ => ?_) (fun c16 => absurd c16 (by decide))
  refine G.iload_n hX 2 rfl dX4_of_26 ?_
  refine G.tout hX (tgt := 89) dX4_of_27 (by decide) (by decide) ?_
  refine G.aload_n hX 0 rfl dX4_of_89 ?_
  refine G.iload_n hX 1 rfl dX4_of_90 ?_
  refine G.iload_n hX 2 rfl dX4_of_91 ?_
  refine G.vi hX (As := [.int (nI t), .int 1]) (st := []) (wr := []) (wf := [(o 0, moO o ik be so tp fr tq vl wr), (o 1, arI E 122 s)]) (q0 := 0) (ci := 4) rfl rfl (c_X4_its _ E (t := t) (w := 1) (o := o) (ik := ik) (be := be) (so := so) (tp := tp) (fr := fr) (tq := tq) (vl := vl) (wr := wr) (s := s) (h1 := by omega)) gX4_of_X4_its cp_X4_its (by decide) [0, 1] [] [0, 1] ⟨rfl, rfl, by decide, rfl⟩ rfl rfl (Nat.le_of_ble_eq_true rfl) dX4_of_92 ?_
  exact G.iret hX hQ dX4_of_95 (by rfl) (by rfl)
set_option maxHeartbeats 4000000 in
set_option maxRecDepth 100000 in
theorem c_X4_of2 (l : Launch) (E : EV) (t : Nat) (o : Nat → Nat) (ik : Int32) (be : Int32) (so : Int32) (tp : Int32) (fr : Int32) (tq : Int32) (vl : Int32) (wr : Int32) (s : Nat → Int32) (h1 : t < 12) : CI l yX4_of wsX4_of rmX4_of E [.ref (o 0), .int (nI t), .int 2] [(o 0, moO o ik be so tp fr tq vl wr), (o 1, arI E 122 s)] [(o 0, moO o ik be so tp fr tq vl wr), (o 1, arI E 122 s)] (ms_leans s t) := by
  refine CI.of (own := RX4) (cc := cX4_of) (nL := 3) (rt := (some .int)) (by decide) rfl rfl (Nat.le_of_ble_eq_true rfl) (fun X hX hQ => ?_)
  show G E X 3 0 [(0, .ref (o 0)), (1, .int (nI t)), (2, .int 2)] [] [(o 0, moO o ik be so tp fr tq vl wr), (o 1, arI E 122 s)]
  refine G.iload_n hX 1 rfl dX4_of_0 ?_
  refine G.s0i hX (As := [.int (nI t)]) (st := []) (c_X4_isTreen _ E (x := t) (h1 := by omega)) gX4_of_X4_isTree cp_X4_isTree (by decide) rfl rfl (Nat.le_of_ble_eq_true rfl) dX4_of_1 ?_
  refine G.if_eq hX (tgt := 19) (by decide) dX4_of_4 (fun c4 => absurd c4 (by decide)) (fun _ => ?_)
  refine G.iload_n hX 2 rfl dX4_of_7 ?_
  refine G.i2l hX dX4_of_8 ?_
  refine G.le (y := 2) (by decide) ?_
  refine G.lconst hX (v := 0) (by decide) dX4_of_9 ?_
  refine G.ldc2 hX (v := 5) (by decide +kernel) dX4_of_10 ?_
  refine G.s0i hX (As := [.long 2, .long 0, .long 5]) (st := []) (c_X4_inn _ E (v := 2) (lo := 0) (hi := 5) (h1 := by omega) (h2 := by omega) (h3 := by omega)) gX4_of_X4_in cp_X4_in (by decide) rfl rfl (Nat.le_of_ble_eq_true rfl) dX4_of_13 ?_
  refine G.if_ne hX (tgt := 26) (by decide) dX4_of_16 (fun _ => ?_) (fun c16 => absurd c16 (by decide))
  refine G.iload_n hX 2 rfl dX4_of_26 ?_
  refine G.tin hX (tgt := 56) dX4_of_27 (by decide) (by decide) rfl (by decide) ?_
  refine G.aload_n hX 0 rfl dX4_of_56 ?_
  refine G.iload_n hX 1 rfl dX4_of_57 ?_
  refine G.vi hX (As := [.int (nI t)]) (st := []) (wr := []) (wf := [(o 0, moO o ik be so tp fr tq vl wr), (o 1, arI E 122 s)]) (q0 := 0) (ci := 4) rfl rfl (c_X4_leansOf _ E (t := t) (o := o) (ik := ik) (be := be) (so := so) (tp := tp) (fr := fr) (tq := tq) (vl := vl) (wr := wr) (s := s) (h1 := by omega)) gX4_of_X4_leansOf cp_X4_leansOf (by decide) [0, 1] [] [0, 1] ⟨rfl, rfl, by decide, rfl⟩ rfl rfl (Nat.le_of_ble_eq_true rfl) dX4_of_58 ?_
  exact G.iret hX hQ dX4_of_61 (by rfl) (by rfl)
set_option maxHeartbeats 4000000 in
set_option maxRecDepth 100000 in
theorem c_X4_of3 (l : Launch) (E : EV) (t : Nat) (o : Nat → Nat) (ik : Int32) (be : Int32) (so : Int32) (tp : Int32) (fr : Int32) (tq : Int32) (vl : Int32) (wr : Int32) (s : Nat → Int32) (h1 : t < 12) : CI l yX4_of wsX4_of rmX4_of E [.ref (o 0), .int (nI t), .int 3] [(o 0, moO o ik be so tp fr tq vl wr), (o 1, arI E 122 s)] [(o 0, moO o ik be so tp fr tq vl wr), (o 1, arI E 122 s)] (ms_nods s t) := by
  refine CI.of (own := RX4) (cc := cX4_of) (nL := 3) (rt := (some .int)) (by decide) rfl rfl (Nat.le_of_ble_eq_true rfl) (fun X hX hQ => ?_)
  show G E X 3 0 [(0, .ref (o 0)), (1, .int (nI t)), (2, .int 3)] [] [(o 0, moO o ik be so tp fr tq vl wr), (o 1, arI E 122 s)]
  refine G.iload_n hX 1 rfl dX4_of_0 ?_
  refine G.s0i hX (As := [.int (nI t)]) (st := []) (c_X4_isTreen _ E (x := t) (h1 := by omega)) gX4_of_X4_isTree cp_X4_isTree (by decide) rfl rfl (Nat.le_of_ble_eq_true rfl) dX4_of_1 ?_
  refine G.if_eq hX (tgt := 19) (by decide) dX4_of_4 (fun c4 => absurd c4 (by decide)) (fun _ => ?_)
  refine G.iload_n hX 2 rfl dX4_of_7 ?_
  refine G.i2l hX dX4_of_8 ?_
  refine G.le (y := 3) (by decide) ?_
  refine G.lconst hX (v := 0) (by decide) dX4_of_9 ?_
  refine G.ldc2 hX (v := 5) (by decide +kernel) dX4_of_10 ?_
  refine G.s0i hX (As := [.long 3, .long 0, .long 5]) (st := []) (c_X4_inn _ E (v := 3) (lo := 0) (hi := 5) (h1 := by omega) (h2 := by omega) (h3 := by omega)) gX4_of_X4_in cp_X4_in (by decide) rfl rfl (Nat.le_of_ble_eq_true rfl) dX4_of_13 ?_
  refine G.if_ne hX (tgt := 26) (by decide) dX4_of_16 (fun _ => ?_) (fun c16 => absurd c16 (by decide))
  refine G.iload_n hX 2 rfl dX4_of_26 ?_
  refine G.tin hX (tgt := 62) dX4_of_27 (by decide) (by decide) rfl (by decide) ?_
  refine G.aload_n hX 0 rfl dX4_of_62 ?_
  refine G.iload_n hX 1 rfl dX4_of_63 ?_
  refine G.vi hX (As := [.int (nI t)]) (st := []) (wr := []) (wf := [(o 0, moO o ik be so tp fr tq vl wr), (o 1, arI E 122 s)]) (q0 := 0) (ci := 4) rfl rfl (c_X4_nodsOf _ E (t := t) (o := o) (ik := ik) (be := be) (so := so) (tp := tp) (fr := fr) (tq := tq) (vl := vl) (wr := wr) (s := s) (h1 := by omega)) gX4_of_X4_nodsOf cp_X4_nodsOf (by decide) [0, 1] [] [0, 1] ⟨rfl, rfl, by decide, rfl⟩ rfl rfl (Nat.le_of_ble_eq_true rfl) dX4_of_64 ?_
  exact G.iret hX hQ dX4_of_67 (by rfl) (by rfl)
set_option maxHeartbeats 4000000 in
set_option maxRecDepth 100000 in
theorem c_X4_of4 (l : Launch) (E : EV) (t : Nat) (o : Nat → Nat) (ik : Int32) (be : Int32) (so : Int32) (tp : Int32) (fr : Int32) (tq : Int32) (vl : Int32) (wr : Int32) (s : Nat → Int32) (h1 : t < 12) : CI l yX4_of wsX4_of rmX4_of E [.ref (o 0), .int (nI t), .int 4] [(o 0, moO o ik be so tp fr tq vl wr), (o 1, arI E 122 s)] [(o 0, moO o ik be so tp fr tq vl wr), (o 1, arI E 122 s)] (bI (ms_hear s t false)) := by
  refine CI.of (own := RX4) (cc := cX4_of) (nL := 3) (rt := (some .int)) (by decide) rfl rfl (Nat.le_of_ble_eq_true rfl) (fun X hX hQ => ?_)
  show G E X 3 0 [(0, .ref (o 0)), (1, .int (nI t)), (2, .int 4)] [] [(o 0, moO o ik be so tp fr tq vl wr), (o 1, arI E 122 s)]
  refine G.iload_n hX 1 rfl dX4_of_0 ?_
  refine G.s0i hX (As := [.int (nI t)]) (st := []) (c_X4_isTreen _ E (x := t) (h1 := by omega)) gX4_of_X4_isTree cp_X4_isTree (by decide) rfl rfl (Nat.le_of_ble_eq_true rfl) dX4_of_1 ?_
  refine G.if_eq hX (tgt := 19) (by decide) dX4_of_4 (fun c4 => absurd c4 (by decide)) (fun _ => ?_)
  refine G.iload_n hX 2 rfl dX4_of_7 ?_
  refine G.i2l hX dX4_of_8 ?_
  refine G.le (y := 4) (by decide) ?_
  refine G.lconst hX (v := 0) (by decide) dX4_of_9 ?_
  refine G.ldc2 hX (v := 5) (by decide +kernel) dX4_of_10 ?_
  refine G.s0i hX (As := [.long 4, .long 0, .long 5]) (st := []) (c_X4_inn _ E (v := 4) (lo := 0) (hi := 5) (h1 := by omega) (h2 := by omega) (h3 := by omega)) gX4_of_X4_in cp_X4_in (by decide) rfl rfl (Nat.le_of_ble_eq_true rfl) dX4_of_13 ?_
  refine G.if_ne hX (tgt := 26) (by decide) dX4_of_16 (fun _ => ?_) (fun c16 => absurd c16 (by decide))
  refine G.iload_n hX 2 rfl dX4_of_26 ?_
  refine G.tin hX (tgt := 68) dX4_of_27 (by decide) (by decide) rfl (by decide) ?_
  refine G.aload_n hX 0 rfl dX4_of_68 ?_
  refine G.iload_n hX 1 rfl dX4_of_69 ?_
  refine G.iconst hX (v := 0) (by decide) dX4_of_70 ?_
  refine G.vi hX (As := [.int (nI t), .int 0]) (st := []) (wr := []) (wf := [(o 0, moO o ik be so tp fr tq vl wr), (o 1, arI E 122 s)]) (q0 := 0) (ci := 4) rfl rfl (c_X4_isHearing _ E (t := t) (b := false) (o := o) (ik := ik) (be := be) (so := so) (tp := tp) (fr := fr) (tq := tq) (vl := vl) (wr := wr) (s := s) (h1 := by omega)) gX4_of_X4_isHearing cp_X4_isHearing (by decide) [0, 1] [] [0, 1] ⟨rfl, rfl, by decide, rfl⟩ rfl rfl (Nat.le_of_ble_eq_true rfl) dX4_of_71 ?_
  refine G.b_eq hX (tgt := 81) (by decide) dX4_of_74 (fun c74 => ?_) (fun c74 => ?_)
  · refine G.iconst hX (v := 0) (by decide) dX4_of_81 ?_
    exact G.iret hX hQ dX4_of_82 (by first | rfl | (simp only [bI, c74, ↓reduceIte, Bool.not_true, Bool.not_false, Bool.and_true, Bool.true_and, Bool.and_false, Bool.false_and, Bool.or_true, Bool.true_or, Bool.or_false, Bool.false_or, decide_true, decide_false, not_true_eq_false, not_false_eq_true, Bool.false_eq_true, Bool.true_eq_false]; done) | (simp only [bI, c74, ↓reduceIte, Bool.not_true, Bool.not_false, Bool.and_true, Bool.true_and, Bool.and_false, Bool.false_and, Bool.or_true, Bool.true_or, Bool.or_false, Bool.false_or, decide_true, decide_false, not_true_eq_false, not_false_eq_true, Bool.false_eq_true, Bool.true_eq_false]; rfl) | (simp [bI, c74]; done)) (by rfl)
  · refine G.iconst hX (v := 1) (by decide) dX4_of_77 ?_
    refine G.goto hX (tgt := 82) (by decide) dX4_of_78 ?_
    exact G.iret hX hQ dX4_of_82 (by first | rfl | (simp only [bI, c74, ↓reduceIte, Bool.not_true, Bool.not_false, Bool.and_true, Bool.true_and, Bool.and_false, Bool.false_and, Bool.or_true, Bool.true_or, Bool.or_false, Bool.false_or, decide_true, decide_false, not_true_eq_false, not_false_eq_true, Bool.false_eq_true, Bool.true_eq_false]; done) | (simp only [bI, c74, ↓reduceIte, Bool.not_true, Bool.not_false, Bool.and_true, Bool.true_and, Bool.and_false, Bool.false_and, Bool.or_true, Bool.true_or, Bool.or_false, Bool.false_or, decide_true, decide_false, not_true_eq_false, not_false_eq_true, Bool.false_eq_true, Bool.true_eq_false]; rfl) | (simp [bI, c74]; done)) (by rfl)
set_option maxHeartbeats 4000000 in
set_option maxRecDepth 100000 in
theorem c_X4_of5 (l : Launch) (E : EV) (t : Nat) (o : Nat → Nat) (ik : Int32) (be : Int32) (so : Int32) (tp : Int32) (fr : Int32) (tq : Int32) (vl : Int32) (wr : Int32) (s : Nat → Int32) (h1 : t < 12) : CI l yX4_of wsX4_of rmX4_of E [.ref (o 0), .int (nI t), .int 5] [(o 0, moO o ik be so tp fr tq vl wr), (o 1, arI E 122 s)] [(o 0, moO o ik be so tp fr tq vl wr), (o 1, arI E 122 s)] (nI (ms_kb s t)) := by
  refine CI.of (own := RX4) (cc := cX4_of) (nL := 3) (rt := (some .int)) (by decide) rfl rfl (Nat.le_of_ble_eq_true rfl) (fun X hX hQ => ?_)
  show G E X 3 0 [(0, .ref (o 0)), (1, .int (nI t)), (2, .int 5)] [] [(o 0, moO o ik be so tp fr tq vl wr), (o 1, arI E 122 s)]
  refine G.iload_n hX 1 rfl dX4_of_0 ?_
  refine G.s0i hX (As := [.int (nI t)]) (st := []) (c_X4_isTreen _ E (x := t) (h1 := by omega)) gX4_of_X4_isTree cp_X4_isTree (by decide) rfl rfl (Nat.le_of_ble_eq_true rfl) dX4_of_1 ?_
  refine G.if_eq hX (tgt := 19) (by decide) dX4_of_4 (fun c4 => absurd c4 (by decide)) (fun _ => ?_)
  refine G.iload_n hX 2 rfl dX4_of_7 ?_
  refine G.i2l hX dX4_of_8 ?_
  refine G.le (y := 5) (by decide) ?_
  refine G.lconst hX (v := 0) (by decide) dX4_of_9 ?_
  refine G.ldc2 hX (v := 5) (by decide +kernel) dX4_of_10 ?_
  refine G.s0i hX (As := [.long 5, .long 0, .long 5]) (st := []) (c_X4_inn _ E (v := 5) (lo := 0) (hi := 5) (h1 := by omega) (h2 := by omega) (h3 := by omega)) gX4_of_X4_in cp_X4_in (by decide) rfl rfl (Nat.le_of_ble_eq_true rfl) dX4_of_13 ?_
  refine G.if_ne hX (tgt := 26) (by decide) dX4_of_16 (fun _ => ?_) (fun c16 => absurd c16 (by decide))
  refine G.iload_n hX 2 rfl dX4_of_26 ?_
  refine G.tin hX (tgt := 83) dX4_of_27 (by decide) (by decide) rfl (by decide) ?_
  refine G.aload_n hX 0 rfl dX4_of_83 ?_
  refine G.iload_n hX 1 rfl dX4_of_84 ?_
  refine G.vi hX (As := [.int (nI t)]) (st := []) (wr := []) (wf := [(o 0, moO o ik be so tp fr tq vl wr), (o 1, arI E 122 s)]) (q0 := 0) (ci := 4) rfl rfl (c_X4_knownBy _ E (t := t) (o := o) (ik := ik) (be := be) (so := so) (tp := tp) (fr := fr) (tq := tq) (vl := vl) (wr := wr) (s := s) (h1 := by omega)) gX4_of_X4_knownBy cp_X4_knownBy (by decide) [0, 1] [] [0, 1] ⟨rfl, rfl, by decide, rfl⟩ rfl rfl (Nat.le_of_ble_eq_true rfl) dX4_of_85 ?_
  exact G.iret hX hQ dX4_of_88 (by rfl) (by rfl)
abbrev rmX4_since : Room := { frames := 4, cells := 0, slots := 0, locals := 87 }
theorem cp_X4_since : CP yX4_since RX4 wsX4_since 3 2 rmX4_since := ⟨⟨_, _, _, rfl⟩, rfl, rfl, by decide +kernel⟩
set_option maxHeartbeats 4000000 in
set_option maxRecDepth 100000 in
theorem c_X4_sincebad (l : Launch) (E : EV) (x : Int32) (y : Int32) (o : Nat → Nat) (ik : Int32) (be : Int32) (so : Int32) (tp : Int32) (fr : Int32) (tq : Int32) (vl : Int32) (wr : Int32) (stt : Nat → Int32) (h1 : (inI x 0 11 && inI y 0 7) = false) : CI l yX4_since wsX4_since rmX4_since E [.ref (o 0), .int x, .int y] [(o 0, moO o ik be so tp fr tq vl wr), (o 5, arI E 7 stt)] [(o 0, moO o ik be so tp fr tq vl wr), (o 5, arI E 7 (upd stt 0 (stt 0 + 1)))] ((-1000000001)) := by
  refine CI.of (own := RX4) (cc := cX4_since) (nL := 3) (rt := (some .int)) (by decide) rfl rfl (Nat.le_of_ble_eq_true rfl) (fun X hX hQ => ?_)
  show G E X 3 0 [(0, .ref (o 0)), (1, .int x), (2, .int y)] [] [(o 0, moO o ik be so tp fr tq vl wr), (o 5, arI E 7 stt)]
  refine G.iload_n hX 1 rfl dX4_since_0 ?_
  refine G.s0i hX (As := [.int x]) (st := []) (c_X4_isTree _ E (x := x) ) gX4_since_X4_isTree cp_X4_isTree (by decide) rfl rfl (Nat.le_of_ble_eq_true rfl) dX4_since_1 ?_
  refine G.b_eq hX (tgt := 14) (by decide) dX4_since_4 (fun c4 => ?_) (fun c4 => ?_)
  · refine G.aload_n hX 0 rfl dX4_since_14 ?_
    refine G.ldc hX (v := -1000000001) (by decide +kernel) dX4_since_15 ?_
    refine G.vi hX (As := [.int ((-1000000001))]) (st := []) (wr := []) (wf := [(o 0, moO o ik be so tp fr tq vl wr), (o 5, arI E 7 (upd stt 0 (stt 0 + 1)))]) (q0 := 0) (ci := 4) rfl rfl (c_X4_finds0 _ E (o := o) (ik := ik) (be := be) (so := so) (tp := tp) (fr := fr) (tq := tq) (vl := vl) (wr := wr) (stt := stt) ) gX4_since_X4_finds cp_X4_finds (by decide) [0, 1] [] [0, 1] ⟨rfl, rfl, by decide, rfl⟩ rfl rfl (Nat.le_of_ble_eq_true rfl) dX4_since_17 ?_
    exact G.iret hX hQ dX4_since_20 (by rfl) (by rfl)
  · refine G.iload_n hX 2 rfl dX4_since_7 ?_
    refine G.s0i hX (As := [.int y]) (st := []) (c_X4_isMessage _ E (x := y) ) gX4_since_X4_isMessage cp_X4_isMessage (by decide) rfl rfl (Nat.le_of_ble_eq_true rfl) dX4_since_8 ?_
    refine G.b_ne hX (tgt := 21) (by decide) dX4_since_11 (fun c11 => ?_) (fun c11 => ?_)
    · exact absurd h1 (by simp [c4, c11])
    · refine G.aload_n hX 0 rfl dX4_since_14 ?_
      refine G.ldc hX (v := -1000000001) (by decide +kernel) dX4_since_15 ?_
      refine G.vi hX (As := [.int ((-1000000001))]) (st := []) (wr := []) (wf := [(o 0, moO o ik be so tp fr tq vl wr), (o 5, arI E 7 (upd stt 0 (stt 0 + 1)))]) (q0 := 0) (ci := 4) rfl rfl (c_X4_finds0 _ E (o := o) (ik := ik) (be := be) (so := so) (tp := tp) (fr := fr) (tq := tq) (vl := vl) (wr := wr) (stt := stt) ) gX4_since_X4_finds cp_X4_finds (by decide) [0, 1] [] [0, 1] ⟨rfl, rfl, by decide, rfl⟩ rfl rfl (Nat.le_of_ble_eq_true rfl) dX4_since_17 ?_
      exact G.iret hX hQ dX4_since_20 (by rfl) (by rfl)
set_option maxHeartbeats 4000000 in
set_option maxRecDepth 100000 in
theorem c_X4_sincek (l : Launch) (E : EV) (t : Nat) (m : Nat) (o : Nat → Nat) (ik : Int32) (be : Int32) (so : Int32) (tp : Int32) (fr : Int32) (tq : Int32) (vl : Int32) (wr : Int32) (s : Nat → Int32) (h1 : t < 12) (h2 : m < 8) (h3 : ms_k s t m = true) : CI l yX4_since wsX4_since rmX4_since E [.ref (o 0), .int (nI t), .int (nI m)] [(o 0, moO o ik be so tp fr tq vl wr), (o 1, arI E 122 s)] [(o 0, moO o ik be so tp fr tq vl wr), (o 1, arI E 122 s)] (s (2 + 10 * t + (2 + m))) := by
  refine CI.of (own := RX4) (cc := cX4_since) (nL := 3) (rt := (some .int)) (by decide) rfl rfl (Nat.le_of_ble_eq_true rfl) (fun X hX hQ => ?_)
  show G E X 3 0 [(0, .ref (o 0)), (1, .int (nI t)), (2, .int (nI m))] [] [(o 0, moO o ik be so tp fr tq vl wr), (o 1, arI E 122 s)]
  refine G.iload_n hX 1 rfl dX4_since_0 ?_
  refine G.s0i hX (As := [.int (nI t)]) (st := []) (c_X4_isTreen _ E (x := t) (h1 := by omega)) gX4_since_X4_isTree cp_X4_isTree (by decide) rfl rfl (Nat.le_of_ble_eq_true rfl) dX4_since_1 ?_
  refine G.if_eq hX (tgt := 14) (by decide) dX4_since_4 (fun c4 => absurd c4 (by decide)) (fun _ => ?_)
  refine G.iload_n hX 2 rfl dX4_since_7 ?_
  refine G.s0i hX (As := [.int (nI m)]) (st := []) (c_X4_isMessagen _ E (x := m) (h1 := by omega)) gX4_since_X4_isMessage cp_X4_isMessage (by decide) rfl rfl (Nat.le_of_ble_eq_true rfl) dX4_since_8 ?_
  refine G.if_ne hX (tgt := 21) (by decide) dX4_since_11 (fun _ => ?_) (fun c11 => absurd c11 (by decide))
  refine G.aload_n hX 0 rfl dX4_since_21 ?_
  refine G.iload_n hX 1 rfl dX4_since_22 ?_
  refine G.iload_n hX 2 rfl dX4_since_23 ?_
  refine G.vi hX (As := [.int (nI t), .int (nI m)]) (st := []) (wr := []) (wf := [(o 0, moO o ik be so tp fr tq vl wr), (o 1, arI E 122 s)]) (q0 := 0) (ci := 4) rfl rfl (c_X4_isKnown _ E (t := t) (m := m) (o := o) (ik := ik) (be := be) (so := so) (tp := tp) (fr := fr) (tq := tq) (vl := vl) (wr := wr) (s := s) (h1 := by omega) (h2 := by omega)) gX4_since_X4_isKnown cp_X4_isKnown (by decide) [0, 1] [] [0, 1] ⟨rfl, rfl, by decide, rfl⟩ rfl rfl (Nat.le_of_ble_eq_true rfl) dX4_since_24 ?_
  refine G.b_eq hX (tgt := 39) (by decide) dX4_since_27 (fun c27 => ?_) (fun c27 => ?_)
  · exact absurd h3 (by simp [c27])
  · refine G.aload_n hX 0 rfl dX4_since_30 ?_
    refine G.iload_n hX 1 rfl dX4_since_31 ?_
    refine G.iload_n hX 2 rfl dX4_since_32 ?_
    refine G.vi hX (As := [.int (nI t), .int (nI m)]) (st := []) (wr := []) (wf := [(o 0, moO o ik be so tp fr tq vl wr), (o 1, arI E 122 s)]) (q0 := 0) (ci := 4) rfl rfl (c_X4_sinceOf _ E (t := t) (m := m) (o := o) (ik := ik) (be := be) (so := so) (tp := tp) (fr := fr) (tq := tq) (vl := vl) (wr := wr) (s := s) (h1 := by omega) (h2 := by omega)) gX4_since_X4_sinceOf cp_X4_sinceOf (by decide) [0, 1] [] [0, 1] ⟨rfl, rfl, by decide, rfl⟩ rfl rfl (Nat.le_of_ble_eq_true rfl) dX4_since_33 ?_
    refine G.goto hX (tgt := 45) (by decide) dX4_since_36 ?_
    exact G.iret hX hQ dX4_since_45 (by rfl) (by rfl)
set_option maxHeartbeats 4000000 in
set_option maxRecDepth 100000 in
theorem c_X4_sinceu (l : Launch) (E : EV) (t : Nat) (m : Nat) (o : Nat → Nat) (ik : Int32) (be : Int32) (so : Int32) (tp : Int32) (fr : Int32) (tq : Int32) (vl : Int32) (wr : Int32) (s : Nat → Int32) (stt : Nat → Int32) (h1 : t < 12) (h2 : m < 8) (h3 : ms_k s t m = false) : CI l yX4_since wsX4_since rmX4_since E [.ref (o 0), .int (nI t), .int (nI m)] [(o 0, moO o ik be so tp fr tq vl wr), (o 1, arI E 122 s), (o 5, arI E 7 stt)] [(o 0, moO o ik be so tp fr tq vl wr), (o 1, arI E 122 s), (o 5, arI E 7 (upd stt 3 (stt 3 + 1)))] ((-1000000004)) := by
  refine CI.of (own := RX4) (cc := cX4_since) (nL := 3) (rt := (some .int)) (by decide) rfl rfl (Nat.le_of_ble_eq_true rfl) (fun X hX hQ => ?_)
  show G E X 3 0 [(0, .ref (o 0)), (1, .int (nI t)), (2, .int (nI m))] [] [(o 0, moO o ik be so tp fr tq vl wr), (o 1, arI E 122 s), (o 5, arI E 7 stt)]
  refine G.iload_n hX 1 rfl dX4_since_0 ?_
  refine G.s0i hX (As := [.int (nI t)]) (st := []) (c_X4_isTreen _ E (x := t) (h1 := by omega)) gX4_since_X4_isTree cp_X4_isTree (by decide) rfl rfl (Nat.le_of_ble_eq_true rfl) dX4_since_1 ?_
  refine G.if_eq hX (tgt := 14) (by decide) dX4_since_4 (fun c4 => absurd c4 (by decide)) (fun _ => ?_)
  refine G.iload_n hX 2 rfl dX4_since_7 ?_
  refine G.s0i hX (As := [.int (nI m)]) (st := []) (c_X4_isMessagen _ E (x := m) (h1 := by omega)) gX4_since_X4_isMessage cp_X4_isMessage (by decide) rfl rfl (Nat.le_of_ble_eq_true rfl) dX4_since_8 ?_
  refine G.if_ne hX (tgt := 21) (by decide) dX4_since_11 (fun _ => ?_) (fun c11 => absurd c11 (by decide))
  refine G.aload_n hX 0 rfl dX4_since_21 ?_
  refine G.iload_n hX 1 rfl dX4_since_22 ?_
  refine G.iload_n hX 2 rfl dX4_since_23 ?_
  refine G.vi hX (As := [.int (nI t), .int (nI m)]) (st := []) (wr := [(o 5, arI E 7 stt)]) (wf := [(o 0, moO o ik be so tp fr tq vl wr), (o 1, arI E 122 s), (o 5, arI E 7 stt)]) (q0 := 0) (ci := 4) rfl rfl (c_X4_isKnown _ E (t := t) (m := m) (o := o) (ik := ik) (be := be) (so := so) (tp := tp) (fr := fr) (tq := tq) (vl := vl) (wr := wr) (s := s) (h1 := by omega) (h2 := by omega)) gX4_since_X4_isKnown cp_X4_isKnown (by decide) [0, 1] [2] [1, 2, 0] ⟨rfl, rfl, by decide, rfl⟩ rfl rfl (Nat.le_of_ble_eq_true rfl) dX4_since_24 ?_
  refine G.b_eq hX (tgt := 39) (by decide) dX4_since_27 (fun c27 => ?_) (fun c27 => ?_)
  · refine G.aload_n hX 0 rfl dX4_since_39 ?_
    refine G.ldc hX (v := -1000000004) (by decide +kernel) dX4_since_40 ?_
    refine G.vi hX (As := [.int ((-1000000004))]) (st := []) (wr := [(o 1, arI E 122 s)]) (wf := [(o 0, moO o ik be so tp fr tq vl wr), (o 1, arI E 122 s), (o 5, arI E 7 (upd stt 3 (stt 3 + 1)))]) (q0 := 0) (ci := 4) rfl rfl (c_X4_finds3 _ E (o := o) (ik := ik) (be := be) (so := so) (tp := tp) (fr := fr) (tq := tq) (vl := vl) (wr := wr) (stt := stt) ) gX4_since_X4_finds cp_X4_finds (by decide) [0, 2] [1] [1, 0, 2] ⟨rfl, rfl, by decide, rfl⟩ rfl rfl (Nat.le_of_ble_eq_true rfl) dX4_since_42 ?_
    exact G.iret hX hQ dX4_since_45 (by rfl) (by rfl)
  · exact absurd h3 (by simp [c27])
abbrev rmX4_plant : Room := { frames := 2, cells := 0, slots := 0, locals := 45 }
theorem cp_X4_plant : CP yX4_plant RX4 wsX4_plant 4 2 rmX4_plant := ⟨⟨_, _, _, rfl⟩, rfl, rfl, by decide +kernel⟩
set_option maxHeartbeats 4000000 in
set_option maxRecDepth 100000 in
theorem c_X4_plantbad (l : Launch) (E : EV) (x : Int32) (y : Int32) (o : Nat → Nat) (ik : Int32) (be : Int32) (so : Int32) (tp : Int32) (fr : Int32) (tq : Int32) (vl : Int32) (wr : Int32) (stt : Nat → Int32) (h1 : (inI x 0 11 && inI y 0 5) = false) : CI l yX4_plant wsX4_plant rmX4_plant E [.ref (o 0), .int x, .int y] [(o 0, moO o ik be so tp fr tq vl wr), (o 5, arI E 7 stt)] [(o 0, moO o ik be so tp fr tq vl wr), (o 5, arI E 7 (upd stt 0 (stt 0 + 1)))] ((-1000000001)) := by
  refine CI.of (own := RX4) (cc := cX4_plant) (nL := 4) (rt := (some .int)) (by decide) rfl rfl (Nat.le_of_ble_eq_true rfl) (fun X hX hQ => ?_)
  show G E X 4 0 [(0, .ref (o 0)), (1, .int x), (2, .int y)] [] [(o 0, moO o ik be so tp fr tq vl wr), (o 5, arI E 7 stt)]
  refine G.iload_n hX 1 rfl dX4_plant_0 ?_
  refine G.s0i hX (As := [.int x]) (st := []) (c_X4_isTree _ E (x := x) ) gX4_plant_X4_isTree cp_X4_isTree (by decide) rfl rfl (Nat.le_of_ble_eq_true rfl) dX4_plant_1 ?_
  refine G.b_eq hX (tgt := 14) (by decide) dX4_plant_4 (fun c4 => ?_) (fun c4 => ?_)
  · refine G.aload_n hX 0 rfl dX4_plant_14 ?_
    refine G.ldc hX (v := -1000000001) (by decide +kernel) dX4_plant_15 ?_
    refine G.vi hX (As := [.int ((-1000000001))]) (st := []) (wr := []) (wf := [(o 0, moO o ik be so tp fr tq vl wr), (o 5, arI E 7 (upd stt 0 (stt 0 + 1)))]) (q0 := 0) (ci := 4) rfl rfl (c_X4_finds0 _ E (o := o) (ik := ik) (be := be) (so := so) (tp := tp) (fr := fr) (tq := tq) (vl := vl) (wr := wr) (stt := stt) ) gX4_plant_X4_finds cp_X4_finds (by decide) [0, 1] [] [0, 1] ⟨rfl, rfl, by decide, rfl⟩ rfl rfl (Nat.le_of_ble_eq_true rfl) dX4_plant_17 ?_
    exact G.iret hX hQ dX4_plant_20 (by rfl) (by rfl)
  · refine G.iload_n hX 2 rfl dX4_plant_7 ?_
    refine G.s0i hX (As := [.int y]) (st := []) (c_X4_isKind _ E (x := y) ) gX4_plant_X4_isKind cp_X4_isKind (by decide) rfl rfl (Nat.le_of_ble_eq_true rfl) dX4_plant_8 ?_
    refine G.b_ne hX (tgt := 21) (by decide) dX4_plant_11 (fun c11 => ?_) (fun c11 => ?_)
    · exact absurd h1 (by simp [c4, c11])
    · refine G.aload_n hX 0 rfl dX4_plant_14 ?_
      refine G.ldc hX (v := -1000000001) (by decide +kernel) dX4_plant_15 ?_
      refine G.vi hX (As := [.int ((-1000000001))]) (st := []) (wr := []) (wf := [(o 0, moO o ik be so tp fr tq vl wr), (o 5, arI E 7 (upd stt 0 (stt 0 + 1)))]) (q0 := 0) (ci := 4) rfl rfl (c_X4_finds0 _ E (o := o) (ik := ik) (be := be) (so := so) (tp := tp) (fr := fr) (tq := tq) (vl := vl) (wr := wr) (stt := stt) ) gX4_plant_X4_finds cp_X4_finds (by decide) [0, 1] [] [0, 1] ⟨rfl, rfl, by decide, rfl⟩ rfl rfl (Nat.le_of_ble_eq_true rfl) dX4_plant_17 ?_
      exact G.iret hX hQ dX4_plant_20 (by rfl) (by rfl)
set_option maxHeartbeats 4000000 in
set_option maxRecDepth 100000 in
theorem c_X4_plantok (l : Launch) (E : EV) (t : Nat) (k : Nat) (o : Nat → Nat) (ik : Int32) (be : Int32) (so : Int32) (tp : Int32) (fr : Int32) (tq : Int32) (vl : Int32) (wr : Int32) (s : Nat → Int32) (h1 : t < 12) (h2 : k < 6) : CI l yX4_plant wsX4_plant rmX4_plant E [.ref (o 0), .int (nI t), .int (nI k)] [(o 0, moO o ik be so tp fr tq vl wr), (o 1, arI E 122 s)] [(o 0, moO o ik be so tp fr tq vl wr), (o 1, arI E 122 (ms_sets s t (nI k) 0))] (s (2 + 10 * t)) := by
  refine CI.of (own := RX4) (cc := cX4_plant) (nL := 4) (rt := (some .int)) (by decide) rfl rfl (Nat.le_of_ble_eq_true rfl) (fun X hX hQ => ?_)
  show G E X 4 0 [(0, .ref (o 0)), (1, .int (nI t)), (2, .int (nI k))] [] [(o 0, moO o ik be so tp fr tq vl wr), (o 1, arI E 122 s)]
  refine G.iload_n hX 1 rfl dX4_plant_0 ?_
  refine G.s0i hX (As := [.int (nI t)]) (st := []) (c_X4_isTreen _ E (x := t) (h1 := by omega)) gX4_plant_X4_isTree cp_X4_isTree (by decide) rfl rfl (Nat.le_of_ble_eq_true rfl) dX4_plant_1 ?_
  refine G.if_eq hX (tgt := 14) (by decide) dX4_plant_4 (fun c4 => absurd c4 (by decide)) (fun _ => ?_)
  refine G.iload_n hX 2 rfl dX4_plant_7 ?_
  refine G.s0i hX (As := [.int (nI k)]) (st := []) (c_X4_isKindn _ E (x := k) (h1 := by omega)) gX4_plant_X4_isKind cp_X4_isKind (by decide) rfl rfl (Nat.le_of_ble_eq_true rfl) dX4_plant_8 ?_
  refine G.if_ne hX (tgt := 21) (by decide) dX4_plant_11 (fun _ => ?_) (fun c11 => absurd c11 (by decide))
  refine G.aload_n hX 0 rfl dX4_plant_21 ?_
  refine G.iload_n hX 1 rfl dX4_plant_22 ?_
  refine G.iconst hX (v := 0) (by decide) dX4_plant_23 ?_
  refine G.vi hX (As := [.int (nI t), .int 0]) (st := []) (wr := []) (wf := [(o 0, moO o ik be so tp fr tq vl wr), (o 1, arI E 122 s)]) (q0 := 0) (ci := 4) rfl rfl (c_X4_its _ E (t := t) (w := 0) (o := o) (ik := ik) (be := be) (so := so) (tp := tp) (fr := fr) (tq := tq) (vl := vl) (wr := wr) (s := s) (h1 := by omega)) gX4_plant_X4_its cp_X4_its (by decide) [0, 1] [] [0, 1] ⟨rfl, rfl, by decide, rfl⟩ rfl rfl (Nat.le_of_ble_eq_true rfl) dX4_plant_24 ?_
  refine G.ie (y := s (2 + 10 * t)) rfl ?_
  refine G.istore_n hX (lv' := [(3, .int (s (2 + 10 * t))), (0, .ref (o 0)), (1, .int (nI t)), (2, .int (nI k))]) rfl (by decide) rfl dX4_plant_27 ?_
  refine G.aload_n hX 1 rfl dX4_plant_28 ?_
  refine G.iload_n hX 2 rfl dX4_plant_29 ?_
  refine G.iload_n hX 3 rfl dX4_plant_30 ?_
  refine G.iconst hX (v := 0) (by decide) dX4_plant_31 ?_
  refine G.vv hX (As := [.int (nI t), .int (nI k), .int 0]) (st := []) (wr := []) (wf := [(o 0, moO o ik be so tp fr tq vl wr), (o 1, arI E 122 (ms_sets s t (nI k) 0))]) (q0 := 0) (ci := 4) rfl rfl (c_X4_sets _ E (t := t) (k := nI k) (ag := 0) (o := o) (ik := ik) (be := be) (so := so) (tp := tp) (fr := fr) (tq := tq) (vl := vl) (wr := wr) (s := s) (h1 := by omega)) gX4_plant_X4_sets cp_X4_sets (by decide) [0, 1] [] [0, 1] ⟨rfl, rfl, by decide, rfl⟩ rfl rfl (Nat.le_of_ble_eq_true rfl) dX4_plant_32 ?_
  refine G.iload_n hX 0 rfl dX4_plant_35 ?_
  exact G.iret hX hQ dX4_plant_36 (by rfl) (by rfl)
abbrev rmX4_turn : Room := { frames := 2, cells := 0, slots := 0, locals := 45 }
theorem cp_X4_turn : CP yX4_turn RX4 wsX4_turn 3 2 rmX4_turn := ⟨⟨_, _, _, rfl⟩, rfl, rfl, by decide +kernel⟩
set_option maxHeartbeats 4000000 in
set_option maxRecDepth 100000 in
theorem c_X4_turnbad (l : Launch) (E : EV) (x : Int32) (y : Int32) (o : Nat → Nat) (ik : Int32) (be : Int32) (so : Int32) (tp : Int32) (fr : Int32) (tq : Int32) (vl : Int32) (wr : Int32) (stt : Nat → Int32) (h1 : (inI x 0 11 && inI y 0 5) = false) : CI l yX4_turn wsX4_turn rmX4_turn E [.ref (o 0), .int x, .int y] [(o 0, moO o ik be so tp fr tq vl wr), (o 5, arI E 7 stt)] [(o 0, moO o ik be so tp fr tq vl wr), (o 5, arI E 7 (upd stt 0 (stt 0 + 1)))] ((-1000000001)) := by
  refine CI.of (own := RX4) (cc := cX4_turn) (nL := 3) (rt := (some .int)) (by decide) rfl rfl (Nat.le_of_ble_eq_true rfl) (fun X hX hQ => ?_)
  show G E X 3 0 [(0, .ref (o 0)), (1, .int x), (2, .int y)] [] [(o 0, moO o ik be so tp fr tq vl wr), (o 5, arI E 7 stt)]
  refine G.iload_n hX 1 rfl dX4_turn_0 ?_
  refine G.s0i hX (As := [.int x]) (st := []) (c_X4_isTree _ E (x := x) ) gX4_turn_X4_isTree cp_X4_isTree (by decide) rfl rfl (Nat.le_of_ble_eq_true rfl) dX4_turn_1 ?_
  refine G.b_eq hX (tgt := 27) (by decide) dX4_turn_4 (fun c4 => ?_) (fun c4 => ?_)
  · refine G.aload_n hX 0 rfl dX4_turn_27 ?_
    refine G.ldc hX (v := -1000000001) (by decide +kernel) dX4_turn_28 ?_
    refine G.vi hX (As := [.int ((-1000000001))]) (st := []) (wr := []) (wf := [(o 0, moO o ik be so tp fr tq vl wr), (o 5, arI E 7 (upd stt 0 (stt 0 + 1)))]) (q0 := 0) (ci := 4) rfl rfl (c_X4_finds0 _ E (o := o) (ik := ik) (be := be) (so := so) (tp := tp) (fr := fr) (tq := tq) (vl := vl) (wr := wr) (stt := stt) ) gX4_turn_X4_finds cp_X4_finds (by decide) [0, 1] [] [0, 1] ⟨rfl, rfl, by decide, rfl⟩ rfl rfl (Nat.le_of_ble_eq_true rfl) dX4_turn_30 ?_
    exact G.iret hX hQ dX4_turn_33 (by rfl) (by rfl)
  · refine G.iload_n hX 2 rfl dX4_turn_7 ?_
    refine G.s0i hX (As := [.int y]) (st := []) (c_X4_isKind _ E (x := y) ) gX4_turn_X4_isKind cp_X4_isKind (by decide) rfl rfl (Nat.le_of_ble_eq_true rfl) dX4_turn_8 ?_
    refine G.b_eq hX (tgt := 27) (by decide) dX4_turn_11 (fun c11 => ?_) (fun c11 => ?_)
    · refine G.aload_n hX 0 rfl dX4_turn_27 ?_
      refine G.ldc hX (v := -1000000001) (by decide +kernel) dX4_turn_28 ?_
      refine G.vi hX (As := [.int ((-1000000001))]) (st := []) (wr := []) (wf := [(o 0, moO o ik be so tp fr tq vl wr), (o 5, arI E 7 (upd stt 0 (stt 0 + 1)))]) (q0 := 0) (ci := 4) rfl rfl (c_X4_finds0 _ E (o := o) (ik := ik) (be := be) (so := so) (tp := tp) (fr := fr) (tq := tq) (vl := vl) (wr := wr) (stt := stt) ) gX4_turn_X4_finds cp_X4_finds (by decide) [0, 1] [] [0, 1] ⟨rfl, rfl, by decide, rfl⟩ rfl rfl (Nat.le_of_ble_eq_true rfl) dX4_turn_30 ?_
      exact G.iret hX hQ dX4_turn_33 (by rfl) (by rfl)
    · exact absurd h1 (by simp [c4, c11])
set_option maxHeartbeats 4000000 in
set_option maxRecDepth 100000 in
theorem c_X4_turnok (l : Launch) (E : EV) (t : Nat) (k : Nat) (o : Nat → Nat) (ik : Int32) (be : Int32) (so : Int32) (tp : Int32) (fr : Int32) (tq : Int32) (vl : Int32) (wr : Int32) (s : Nat → Int32) (h1 : t < 12) (h2 : k < 6) : CI l yX4_turn wsX4_turn rmX4_turn E [.ref (o 0), .int (nI t), .int (nI k)] [(o 0, moO o ik be so tp fr tq vl wr), (o 1, arI E 122 s)] [(o 0, moO o ik be so tp fr tq vl wr), (o 1, arI E 122 (upd s (2 + 10 * t) (nI k)))] (s (2 + 10 * t)) := by
  refine CI.of (own := RX4) (cc := cX4_turn) (nL := 3) (rt := (some .int)) (by decide) rfl rfl (Nat.le_of_ble_eq_true rfl) (fun X hX hQ => ?_)
  show G E X 3 0 [(0, .ref (o 0)), (1, .int (nI t)), (2, .int (nI k))] [] [(o 0, moO o ik be so tp fr tq vl wr), (o 1, arI E 122 s)]
  refine G.iload_n hX 1 rfl dX4_turn_0 ?_
  refine G.s0i hX (As := [.int (nI t)]) (st := []) (c_X4_isTreen _ E (x := t) (h1 := by omega)) gX4_turn_X4_isTree cp_X4_isTree (by decide) rfl rfl (Nat.le_of_ble_eq_true rfl) dX4_turn_1 ?_
  refine G.if_eq hX (tgt := 27) (by decide) dX4_turn_4 (fun c4 => absurd c4 (by decide)) (fun _ => ?_)
  refine G.iload_n hX 2 rfl dX4_turn_7 ?_
  refine G.s0i hX (As := [.int (nI k)]) (st := []) (c_X4_isKindn _ E (x := k) (h1 := by omega)) gX4_turn_X4_isKind cp_X4_isKind (by decide) rfl rfl (Nat.le_of_ble_eq_true rfl) dX4_turn_8 ?_
  refine G.if_eq hX (tgt := 27) (by decide) dX4_turn_11 (fun c11 => absurd c11 (by decide)) (fun _ => ?_)
  refine G.aload_n hX 0 rfl dX4_turn_14 ?_
  refine G.iload_n hX 1 rfl dX4_turn_15 ?_
  refine G.iconst hX (v := 0) (by decide) dX4_turn_16 ?_
  refine G.s0i hX (As := [.int (nI t), .int 0]) (st := [.ref (o 0)]) (c_X4_spotOf _ E (t := t) (w := 0) ) gX4_turn_X4_spotOf cp_X4_spotOf (by decide) rfl rfl (Nat.le_of_ble_eq_true rfl) dX4_turn_17 ?_
  refine G.ie (y := nI (2 + 10 * t)) rfl ?_
  refine G.iload_n hX 2 rfl dX4_turn_20 ?_
  refine G.vi hX (As := [.int (nI (2 + 10 * t)), .int (nI k)]) (st := []) (wr := []) (wf := [(o 0, moO o ik be so tp fr tq vl wr), (o 1, arI E 122 (upd s (2 + 10 * t) (nI k)))]) (q0 := 0) (ci := 4) rfl rfl (c_X4_becomes _ E (w := 2 + 10 * t) (v := nI k) (o := o) (ik := ik) (be := be) (so := so) (tp := tp) (fr := fr) (tq := tq) (vl := vl) (wr := wr) (s := s) (h1 := by omega)) gX4_turn_X4_becomes cp_X4_becomes (by decide) [0, 1] [] [0, 1] ⟨rfl, rfl, by decide, rfl⟩ rfl rfl (Nat.le_of_ble_eq_true rfl) dX4_turn_21 ?_
  refine G.goto hX (tgt := 33) (by decide) dX4_turn_24 ?_
  exact G.iret hX hQ dX4_turn_33 (by rfl) (by rfl)
abbrev rmX4_age : Room := { frames := 2, cells := 0, slots := 0, locals := 45 }
theorem cp_X4_age : CP yX4_age RX4 wsX4_age 3 2 rmX4_age := ⟨⟨_, _, _, rfl⟩, rfl, rfl, by decide +kernel⟩
set_option maxHeartbeats 4000000 in
set_option maxRecDepth 100000 in
theorem c_X4_agebad (l : Launch) (E : EV) (x : Int32) (y : Int32) (o : Nat → Nat) (ik : Int32) (be : Int32) (so : Int32) (tp : Int32) (fr : Int32) (tq : Int32) (vl : Int32) (wr : Int32) (stt : Nat → Int32) (h1 : (inI x 0 11 && inI y 0 999) = false) : CI l yX4_age wsX4_age rmX4_age E [.ref (o 0), .int x, .int y] [(o 0, moO o ik be so tp fr tq vl wr), (o 5, arI E 7 stt)] [(o 0, moO o ik be so tp fr tq vl wr), (o 5, arI E 7 (upd stt 0 (stt 0 + 1)))] ((-1000000001)) := by
  refine CI.of (own := RX4) (cc := cX4_age) (nL := 3) (rt := (some .int)) (by decide) rfl rfl (Nat.le_of_ble_eq_true rfl) (fun X hX hQ => ?_)
  show G E X 3 0 [(0, .ref (o 0)), (1, .int x), (2, .int y)] [] [(o 0, moO o ik be so tp fr tq vl wr), (o 5, arI E 7 stt)]
  refine G.iload_n hX 1 rfl dX4_age_0 ?_
  refine G.s0i hX (As := [.int x]) (st := []) (c_X4_isTree _ E (x := x) ) gX4_age_X4_isTree cp_X4_isTree (by decide) rfl rfl (Nat.le_of_ble_eq_true rfl) dX4_age_1 ?_
  refine G.b_eq hX (tgt := 32) (by decide) dX4_age_4 (fun c4 => ?_) (fun c4 => ?_)
  · refine G.aload_n hX 0 rfl dX4_age_32 ?_
    refine G.ldc hX (v := -1000000001) (by decide +kernel) dX4_age_33 ?_
    refine G.vi hX (As := [.int ((-1000000001))]) (st := []) (wr := []) (wf := [(o 0, moO o ik be so tp fr tq vl wr), (o 5, arI E 7 (upd stt 0 (stt 0 + 1)))]) (q0 := 0) (ci := 4) rfl rfl (c_X4_finds0 _ E (o := o) (ik := ik) (be := be) (so := so) (tp := tp) (fr := fr) (tq := tq) (vl := vl) (wr := wr) (stt := stt) ) gX4_age_X4_finds cp_X4_finds (by decide) [0, 1] [] [0, 1] ⟨rfl, rfl, by decide, rfl⟩ rfl rfl (Nat.le_of_ble_eq_true rfl) dX4_age_35 ?_
    exact G.iret hX hQ dX4_age_38 (by rfl) (by rfl)
  · refine G.iload_n hX 2 rfl dX4_age_7 ?_
    refine G.i2l hX dX4_age_8 ?_
    refine G.lconst hX (v := 0) (by decide) dX4_age_9 ?_
    refine G.ldc2 hX (v := 999) (by decide +kernel) dX4_age_10 ?_
    refine G.s0i hX (As := [.long y.toInt64, .long 0, .long 999]) (st := []) (c_X4_in _ E (v := y.toInt64) (lo := 0) (hi := 999) ) gX4_age_X4_in cp_X4_in (by decide) rfl rfl (Nat.le_of_ble_eq_true rfl) dX4_age_13 ?_
    refine G.ie (y := bI (inI y 0 999)) rfl ?_
    refine G.b_eq hX (tgt := 32) (by decide) dX4_age_16 (fun c16 => ?_) (fun c16 => ?_)
    · refine G.aload_n hX 0 rfl dX4_age_32 ?_
      refine G.ldc hX (v := -1000000001) (by decide +kernel) dX4_age_33 ?_
      refine G.vi hX (As := [.int ((-1000000001))]) (st := []) (wr := []) (wf := [(o 0, moO o ik be so tp fr tq vl wr), (o 5, arI E 7 (upd stt 0 (stt 0 + 1)))]) (q0 := 0) (ci := 4) rfl rfl (c_X4_finds0 _ E (o := o) (ik := ik) (be := be) (so := so) (tp := tp) (fr := fr) (tq := tq) (vl := vl) (wr := wr) (stt := stt) ) gX4_age_X4_finds cp_X4_finds (by decide) [0, 1] [] [0, 1] ⟨rfl, rfl, by decide, rfl⟩ rfl rfl (Nat.le_of_ble_eq_true rfl) dX4_age_35 ?_
      exact G.iret hX hQ dX4_age_38 (by rfl) (by rfl)
    · exact absurd h1 (by simp [c4, c16])
set_option maxHeartbeats 4000000 in
set_option maxRecDepth 100000 in
theorem c_X4_ageok (l : Launch) (E : EV) (t : Nat) (k : Nat) (o : Nat → Nat) (ik : Int32) (be : Int32) (so : Int32) (tp : Int32) (fr : Int32) (tq : Int32) (vl : Int32) (wr : Int32) (s : Nat → Int32) (h1 : t < 12) (h2 : k < 1000) : CI l yX4_age wsX4_age rmX4_age E [.ref (o 0), .int (nI t), .int (nI k)] [(o 0, moO o ik be so tp fr tq vl wr), (o 1, arI E 122 s)] [(o 0, moO o ik be so tp fr tq vl wr), (o 1, arI E 122 (upd s (2 + 10 * t + 1) (nI k)))] (s (2 + 10 * t + 1)) := by
  refine CI.of (own := RX4) (cc := cX4_age) (nL := 3) (rt := (some .int)) (by decide) rfl rfl (Nat.le_of_ble_eq_true rfl) (fun X hX hQ => ?_)
  show G E X 3 0 [(0, .ref (o 0)), (1, .int (nI t)), (2, .int (nI k))] [] [(o 0, moO o ik be so tp fr tq vl wr), (o 1, arI E 122 s)]
  refine G.iload_n hX 1 rfl dX4_age_0 ?_
  refine G.s0i hX (As := [.int (nI t)]) (st := []) (c_X4_isTreen _ E (x := t) (h1 := by omega)) gX4_age_X4_isTree cp_X4_isTree (by decide) rfl rfl (Nat.le_of_ble_eq_true rfl) dX4_age_1 ?_
  refine G.if_eq hX (tgt := 32) (by decide) dX4_age_4 (fun c4 => absurd c4 (by decide)) (fun _ => ?_)
  refine G.iload_n hX 2 rfl dX4_age_7 ?_
  refine G.i2l hX dX4_age_8 ?_
  refine G.le (y := lN k) (nI_l (by omega)) ?_
  refine G.lconst hX (v := 0) (by decide) dX4_age_9 ?_
  refine G.ldc2 hX (v := 999) (by decide +kernel) dX4_age_10 ?_
  refine G.s0i hX (As := [.long (lN k), .long 0, .long 999]) (st := []) (c_X4_inn _ E (v := k) (lo := 0) (hi := 999) (h1 := by omega) (h2 := by omega) (h3 := by omega)) gX4_age_X4_in cp_X4_in (by decide) rfl rfl (Nat.le_of_ble_eq_true rfl) dX4_age_13 ?_
  refine G.if_eq hX (tgt := 32) (by decide) dX4_age_16 (fun c16 => absurd c16 (by decide)) (fun _ => ?_)
  refine G.aload_n hX 0 rfl dX4_age_19 ?_
  refine G.iload_n hX 1 rfl dX4_age_20 ?_
  refine G.iconst hX (v := 1) (by decide) dX4_age_21 ?_
  refine G.s0i hX (As := [.int (nI t), .int 1]) (st := [.ref (o 0)]) (c_X4_spotOf _ E (t := t) (w := 1) ) gX4_age_X4_spotOf cp_X4_spotOf (by decide) rfl rfl (Nat.le_of_ble_eq_true rfl) dX4_age_22 ?_
  refine G.iload_n hX 2 rfl dX4_age_25 ?_
  refine G.vi hX (As := [.int (nI (2 + 10 * t + 1)), .int (nI k)]) (st := []) (wr := []) (wf := [(o 0, moO o ik be so tp fr tq vl wr), (o 1, arI E 122 (upd s (2 + 10 * t + 1) (nI k)))]) (q0 := 0) (ci := 4) rfl rfl (c_X4_becomes _ E (w := 2 + 10 * t + 1) (v := nI k) (o := o) (ik := ik) (be := be) (so := so) (tp := tp) (fr := fr) (tq := tq) (vl := vl) (wr := wr) (s := s) (h1 := by omega)) gX4_age_X4_becomes cp_X4_becomes (by decide) [0, 1] [] [0, 1] ⟨rfl, rfl, by decide, rfl⟩ rfl rfl (Nat.le_of_ble_eq_true rfl) dX4_age_26 ?_
  refine G.goto hX (tgt := 38) (by decide) dX4_age_29 ?_
  exact G.iret hX hQ dX4_age_38 (by rfl) (by rfl)
abbrev rmX4_isUnder : Room := { frames := 0, cells := 0, slots := 0, locals := 0 }
theorem cp_X4_isUnder : CP yX4_isUnder RX4 wsX4_isUnder 2 2 rmX4_isUnder := ⟨⟨_, _, _, rfl⟩, rfl, rfl, by decide +kernel⟩
set_option maxHeartbeats 4000000 in
set_option maxRecDepth 100000 in
theorem c_X4_isUnder (l : Launch) (E : EV) (x : Int32) (y : Int32)  : CI l yX4_isUnder wsX4_isUnder rmX4_isUnder E [.int x, .int y] [] [] (bI (ms_und x y)) := by
  refine CI.of (own := RX4) (cc := cX4_isUnder) (nL := 2) (rt := (some .boolean)) (by decide) rfl rfl (Nat.le_of_ble_eq_true rfl) (fun X hX hQ => ?_)
  show G E X 2 0 [(0, .int x), (1, .int y)] [] []
  refine G.iload_n hX 1 rfl dX4_isUnder_0 ?_
  refine G.if_eq hX (tgt := 21) (by decide) dX4_isUnder_1 (fun c1 => ?_) (fun c1 => ?_)
  · refine G.iconst hX (v := 1) (by decide) dX4_isUnder_21 ?_
    refine G.goto hX (tgt := 26) (by decide) dX4_isUnder_22 ?_
    exact G.zret hX hQ rfl dX4_isUnder_26 (bI_1.mpr (by first | rfl | (simp only [ms_und, c1, ↓reduceIte, Bool.not_true, Bool.not_false, Bool.and_true, Bool.true_and, Bool.and_false, Bool.false_and, Bool.or_true, Bool.true_or, Bool.or_false, Bool.false_or, decide_true, decide_false, not_true_eq_false, not_false_eq_true, Bool.false_eq_true, Bool.true_eq_false]; done) | (simp only [ms_und, c1, ↓reduceIte, Bool.not_true, Bool.not_false, Bool.and_true, Bool.true_and, Bool.and_false, Bool.false_and, Bool.or_true, Bool.true_or, Bool.or_false, Bool.false_or, decide_true, decide_false, not_true_eq_false, not_false_eq_true, Bool.false_eq_true, Bool.true_eq_false]; rfl) | (simp [ms_und, c1]; done))).symm (by rfl)
  · refine G.iload_n hX 0 rfl dX4_isUnder_4 ?_
    refine G.iload_n hX 1 rfl dX4_isUnder_5 ?_
    refine G.icmp_eq hX (tgt := 21) (by decide) dX4_isUnder_6 (fun c6 => ?_) (fun c6 => ?_)
    · refine G.iconst hX (v := 1) (by decide) dX4_isUnder_21 ?_
      refine G.goto hX (tgt := 26) (by decide) dX4_isUnder_22 ?_
      exact G.zret hX hQ rfl dX4_isUnder_26 (bI_1.mpr (by first | rfl | (simp only [ms_und, c1, c6, ↓reduceIte, Bool.not_true, Bool.not_false, Bool.and_true, Bool.true_and, Bool.and_false, Bool.false_and, Bool.or_true, Bool.true_or, Bool.or_false, Bool.false_or, decide_true, decide_false, not_true_eq_false, not_false_eq_true, Bool.false_eq_true, Bool.true_eq_false]; done) | (simp only [ms_und, c1, c6, ↓reduceIte, Bool.not_true, Bool.not_false, Bool.and_true, Bool.true_and, Bool.and_false, Bool.false_and, Bool.or_true, Bool.true_or, Bool.or_false, Bool.false_or, decide_true, decide_false, not_true_eq_false, not_false_eq_true, Bool.false_eq_true, Bool.true_eq_false]; rfl) | (simp [ms_und, c1, c6]; done))).symm (by rfl)
    · refine G.iload_n hX 0 rfl dX4_isUnder_9 ?_
      refine G.iconst hX (v := 3) (by decide) dX4_isUnder_10 ?_
      refine G.icmp_le hX (tgt := 25) (by decide) dX4_isUnder_11 (fun c11 => ?_) (fun c11 => ?_)
      · refine G.iconst hX (v := 0) (by decide) dX4_isUnder_25 ?_
        exact G.zret hX hQ rfl dX4_isUnder_26 (bI_0.mpr (by first | rfl | (simp only [ms_und, c1, c6, c11, ↓reduceIte, Bool.not_true, Bool.not_false, Bool.and_true, Bool.true_and, Bool.and_false, Bool.false_and, Bool.or_true, Bool.true_or, Bool.or_false, Bool.false_or, decide_true, decide_false, not_true_eq_false, not_false_eq_true, Bool.false_eq_true, Bool.true_eq_false]; done) | (simp only [ms_und, c1, c6, c11, ↓reduceIte, Bool.not_true, Bool.not_false, Bool.and_true, Bool.true_and, Bool.and_false, Bool.false_and, Bool.or_true, Bool.true_or, Bool.or_false, Bool.false_or, decide_true, decide_false, not_true_eq_false, not_false_eq_true, Bool.false_eq_true, Bool.true_eq_false]; rfl) | (simp [ms_und, c1, c6, c11]; done))).symm (by rfl)
      · refine G.iload_n hX 0 rfl dX4_isUnder_14 ?_
        refine G.iconst hX (v := 3) (by decide) dX4_isUnder_15 ?_
        refine G.isub hX dX4_isUnder_16 ?_
        refine G.iload_n hX 1 rfl dX4_isUnder_17 ?_
        refine G.icmp_ne hX (tgt := 25) (by decide) dX4_isUnder_18 (fun c18 => ?_) (fun c18 => ?_)
        · refine G.iconst hX (v := 0) (by decide) dX4_isUnder_25 ?_
          exact G.zret hX hQ rfl dX4_isUnder_26 (bI_0.mpr (by first | rfl | (simp only [ms_und, c1, c6, c11, c18, ↓reduceIte, Bool.not_true, Bool.not_false, Bool.and_true, Bool.true_and, Bool.and_false, Bool.false_and, Bool.or_true, Bool.true_or, Bool.or_false, Bool.false_or, decide_true, decide_false, not_true_eq_false, not_false_eq_true, Bool.false_eq_true, Bool.true_eq_false]; done) | (simp only [ms_und, c1, c6, c11, c18, ↓reduceIte, Bool.not_true, Bool.not_false, Bool.and_true, Bool.true_and, Bool.and_false, Bool.false_and, Bool.or_true, Bool.true_or, Bool.or_false, Bool.false_or, decide_true, decide_false, not_true_eq_false, not_false_eq_true, Bool.false_eq_true, Bool.true_eq_false]; rfl) | (simp [ms_und, c1, c6, c11, c18]; done))).symm (by rfl)
        · refine G.iconst hX (v := 1) (by decide) dX4_isUnder_21 ?_
          refine G.goto hX (tgt := 26) (by decide) dX4_isUnder_22 ?_
          exact G.zret hX hQ rfl dX4_isUnder_26 (bI_1.mpr (by first | rfl | (simp only [ms_und, c1, c6, c11, c18, ↓reduceIte, Bool.not_true, Bool.not_false, Bool.and_true, Bool.true_and, Bool.and_false, Bool.false_and, Bool.or_true, Bool.true_or, Bool.or_false, Bool.false_or, decide_true, decide_false, not_true_eq_false, not_false_eq_true, Bool.false_eq_true, Bool.true_eq_false]; done) | (simp only [ms_und, c1, c6, c11, c18, ↓reduceIte, Bool.not_true, Bool.not_false, Bool.and_true, Bool.true_and, Bool.and_false, Bool.false_and, Bool.or_true, Bool.true_or, Bool.or_false, Bool.false_or, decide_true, decide_false, not_true_eq_false, not_false_eq_true, Bool.false_eq_true, Bool.true_eq_false]; rfl) | (simp [ms_und, c1, c6, c11, c18]; done))).symm (by rfl)
abbrev rmX4_as : Room := { frames := 2, cells := 0, slots := 0, locals := 45 }
theorem cp_X4_as : CP yX4_as RX4 wsX4_as 3 2 rmX4_as := ⟨⟨_, _, _, rfl⟩, rfl, rfl, by decide +kernel⟩
set_option maxHeartbeats 4000000 in
set_option maxRecDepth 100000 in
theorem c_X4_asbad (l : Launch) (E : EV) (x : Int32) (y : Int32) (o : Nat → Nat) (ik : Int32) (be : Int32) (so : Int32) (tp : Int32) (fr : Int32) (tq : Int32) (vl : Int32) (wr : Int32) (stt : Nat → Int32) (h1 : (inI x 0 11 && inI y 0 5) = false) : CI l yX4_as wsX4_as rmX4_as E [.ref (o 0), .int x, .int y] [(o 0, moO o ik be so tp fr tq vl wr), (o 5, arI E 7 stt)] [(o 0, moO o ik be so tp fr tq vl wr), (o 5, arI E 7 (upd stt 0 (stt 0 + 1)))] ((-1000000001)) := by
  refine CI.of (own := RX4) (cc := cX4_as) (nL := 3) (rt := (some .int)) (by decide) rfl rfl (Nat.le_of_ble_eq_true rfl) (fun X hX hQ => ?_)
  show G E X 3 0 [(0, .ref (o 0)), (1, .int x), (2, .int y)] [] [(o 0, moO o ik be so tp fr tq vl wr), (o 5, arI E 7 stt)]
  refine G.iload_n hX 1 rfl dX4_as_0 ?_
  refine G.s0i hX (As := [.int x]) (st := []) (c_X4_isTree _ E (x := x) ) gX4_as_X4_isTree cp_X4_isTree (by decide) rfl rfl (Nat.le_of_ble_eq_true rfl) dX4_as_1 ?_
  refine G.b_eq hX (tgt := 14) (by decide) dX4_as_4 (fun c4 => ?_) (fun c4 => ?_)
  · refine G.aload_n hX 0 rfl dX4_as_14 ?_
    refine G.ldc hX (v := -1000000001) (by decide +kernel) dX4_as_15 ?_
    refine G.vi hX (As := [.int ((-1000000001))]) (st := []) (wr := []) (wf := [(o 0, moO o ik be so tp fr tq vl wr), (o 5, arI E 7 (upd stt 0 (stt 0 + 1)))]) (q0 := 0) (ci := 4) rfl rfl (c_X4_finds0 _ E (o := o) (ik := ik) (be := be) (so := so) (tp := tp) (fr := fr) (tq := tq) (vl := vl) (wr := wr) (stt := stt) ) gX4_as_X4_finds cp_X4_finds (by decide) [0, 1] [] [0, 1] ⟨rfl, rfl, by decide, rfl⟩ rfl rfl (Nat.le_of_ble_eq_true rfl) dX4_as_17 ?_
    exact G.iret hX hQ dX4_as_20 (by rfl) (by rfl)
  · refine G.iload_n hX 2 rfl dX4_as_7 ?_
    refine G.s0i hX (As := [.int y]) (st := []) (c_X4_isKind _ E (x := y) ) gX4_as_X4_isKind cp_X4_isKind (by decide) rfl rfl (Nat.le_of_ble_eq_true rfl) dX4_as_8 ?_
    refine G.b_ne hX (tgt := 21) (by decide) dX4_as_11 (fun c11 => ?_) (fun c11 => ?_)
    · exact absurd h1 (by simp [c4, c11])
    · refine G.aload_n hX 0 rfl dX4_as_14 ?_
      refine G.ldc hX (v := -1000000001) (by decide +kernel) dX4_as_15 ?_
      refine G.vi hX (As := [.int ((-1000000001))]) (st := []) (wr := []) (wf := [(o 0, moO o ik be so tp fr tq vl wr), (o 5, arI E 7 (upd stt 0 (stt 0 + 1)))]) (q0 := 0) (ci := 4) rfl rfl (c_X4_finds0 _ E (o := o) (ik := ik) (be := be) (so := so) (tp := tp) (fr := fr) (tq := tq) (vl := vl) (wr := wr) (stt := stt) ) gX4_as_X4_finds cp_X4_finds (by decide) [0, 1] [] [0, 1] ⟨rfl, rfl, by decide, rfl⟩ rfl rfl (Nat.le_of_ble_eq_true rfl) dX4_as_17 ?_
      exact G.iret hX hQ dX4_as_20 (by rfl) (by rfl)
set_option maxHeartbeats 4000000 in
set_option maxRecDepth 100000 in
theorem c_X4_asu (l : Launch) (E : EV) (t : Nat) (k : Nat) (o : Nat → Nat) (ik : Int32) (be : Int32) (so : Int32) (tp : Int32) (fr : Int32) (tq : Int32) (vl : Int32) (wr : Int32) (s : Nat → Int32) (h1 : t < 12) (h2 : k < 6) (h3 : ms_und (s (2 + 10 * t)) (nI k) = true) : CI l yX4_as wsX4_as rmX4_as E [.ref (o 0), .int (nI t), .int (nI k)] [(o 0, moO o ik be so tp fr tq vl wr), (o 1, arI E 122 s)] [(o 0, moO o ik be so tp fr tq vl wr), (o 1, arI E 122 s)] (s (2 + 10 * t + 1)) := by
  refine CI.of (own := RX4) (cc := cX4_as) (nL := 3) (rt := (some .int)) (by decide) rfl rfl (Nat.le_of_ble_eq_true rfl) (fun X hX hQ => ?_)
  show G E X 3 0 [(0, .ref (o 0)), (1, .int (nI t)), (2, .int (nI k))] [] [(o 0, moO o ik be so tp fr tq vl wr), (o 1, arI E 122 s)]
  refine G.iload_n hX 1 rfl dX4_as_0 ?_
  refine G.s0i hX (As := [.int (nI t)]) (st := []) (c_X4_isTreen _ E (x := t) (h1 := by omega)) gX4_as_X4_isTree cp_X4_isTree (by decide) rfl rfl (Nat.le_of_ble_eq_true rfl) dX4_as_1 ?_
  refine G.if_eq hX (tgt := 14) (by decide) dX4_as_4 (fun c4 => absurd c4 (by decide)) (fun _ => ?_)
  refine G.iload_n hX 2 rfl dX4_as_7 ?_
  refine G.s0i hX (As := [.int (nI k)]) (st := []) (c_X4_isKindn _ E (x := k) (h1 := by omega)) gX4_as_X4_isKind cp_X4_isKind (by decide) rfl rfl (Nat.le_of_ble_eq_true rfl) dX4_as_8 ?_
  refine G.if_ne hX (tgt := 21) (by decide) dX4_as_11 (fun _ => ?_) (fun c11 => absurd c11 (by decide))
  refine G.aload_n hX 0 rfl dX4_as_21 ?_
  refine G.iload_n hX 1 rfl dX4_as_22 ?_
  refine G.iconst hX (v := 0) (by decide) dX4_as_23 ?_
  refine G.vi hX (As := [.int (nI t), .int 0]) (st := []) (wr := []) (wf := [(o 0, moO o ik be so tp fr tq vl wr), (o 1, arI E 122 s)]) (q0 := 0) (ci := 4) rfl rfl (c_X4_its _ E (t := t) (w := 0) (o := o) (ik := ik) (be := be) (so := so) (tp := tp) (fr := fr) (tq := tq) (vl := vl) (wr := wr) (s := s) (h1 := by omega)) gX4_as_X4_its cp_X4_its (by decide) [0, 1] [] [0, 1] ⟨rfl, rfl, by decide, rfl⟩ rfl rfl (Nat.le_of_ble_eq_true rfl) dX4_as_24 ?_
  refine G.ie (y := s (2 + 10 * t)) rfl ?_
  refine G.iload_n hX 2 rfl dX4_as_27 ?_
  refine G.s0i hX (As := [.int (s (2 + 10 * t)), .int (nI k)]) (st := []) (c_X4_isUnder _ E (x := s (2 + 10 * t)) (y := nI k) ) gX4_as_X4_isUnder cp_X4_isUnder (by decide) rfl rfl (Nat.le_of_ble_eq_true rfl) dX4_as_28 ?_
  refine G.b_eq hX (tgt := 43) (by decide) dX4_as_31 (fun c31 => ?_) (fun c31 => ?_)
  · exact absurd h3 (by simp [c31])
  · refine G.aload_n hX 0 rfl dX4_as_34 ?_
    refine G.iload_n hX 1 rfl dX4_as_35 ?_
    refine G.iconst hX (v := 1) (by decide) dX4_as_36 ?_
    refine G.vi hX (As := [.int (nI t), .int 1]) (st := []) (wr := []) (wf := [(o 0, moO o ik be so tp fr tq vl wr), (o 1, arI E 122 s)]) (q0 := 0) (ci := 4) rfl rfl (c_X4_its _ E (t := t) (w := 1) (o := o) (ik := ik) (be := be) (so := so) (tp := tp) (fr := fr) (tq := tq) (vl := vl) (wr := wr) (s := s) (h1 := by omega)) gX4_as_X4_its cp_X4_its (by decide) [0, 1] [] [0, 1] ⟨rfl, rfl, by decide, rfl⟩ rfl rfl (Nat.le_of_ble_eq_true rfl) dX4_as_37 ?_
    refine G.goto hX (tgt := 49) (by decide) dX4_as_40 ?_
    exact G.iret hX hQ dX4_as_49 (by rfl) (by rfl)
set_option maxHeartbeats 4000000 in
set_option maxRecDepth 100000 in
theorem c_X4_asn (l : Launch) (E : EV) (t : Nat) (k : Nat) (o : Nat → Nat) (ik : Int32) (be : Int32) (so : Int32) (tp : Int32) (fr : Int32) (tq : Int32) (vl : Int32) (wr : Int32) (s : Nat → Int32) (stt : Nat → Int32) (h1 : t < 12) (h2 : k < 6) (h3 : ms_und (s (2 + 10 * t)) (nI k) = false) : CI l yX4_as wsX4_as rmX4_as E [.ref (o 0), .int (nI t), .int (nI k)] [(o 0, moO o ik be so tp fr tq vl wr), (o 1, arI E 122 s), (o 5, arI E 7 stt)] [(o 0, moO o ik be so tp fr tq vl wr), (o 1, arI E 122 s), (o 5, arI E 7 (upd stt 2 (stt 2 + 1)))] ((-1000000003)) := by
  refine CI.of (own := RX4) (cc := cX4_as) (nL := 3) (rt := (some .int)) (by decide) rfl rfl (Nat.le_of_ble_eq_true rfl) (fun X hX hQ => ?_)
  show G E X 3 0 [(0, .ref (o 0)), (1, .int (nI t)), (2, .int (nI k))] [] [(o 0, moO o ik be so tp fr tq vl wr), (o 1, arI E 122 s), (o 5, arI E 7 stt)]
  refine G.iload_n hX 1 rfl dX4_as_0 ?_
  refine G.s0i hX (As := [.int (nI t)]) (st := []) (c_X4_isTreen _ E (x := t) (h1 := by omega)) gX4_as_X4_isTree cp_X4_isTree (by decide) rfl rfl (Nat.le_of_ble_eq_true rfl) dX4_as_1 ?_
  refine G.if_eq hX (tgt := 14) (by decide) dX4_as_4 (fun c4 => absurd c4 (by decide)) (fun _ => ?_)
  refine G.iload_n hX 2 rfl dX4_as_7 ?_
  refine G.s0i hX (As := [.int (nI k)]) (st := []) (c_X4_isKindn _ E (x := k) (h1 := by omega)) gX4_as_X4_isKind cp_X4_isKind (by decide) rfl rfl (Nat.le_of_ble_eq_true rfl) dX4_as_8 ?_
  refine G.if_ne hX (tgt := 21) (by decide) dX4_as_11 (fun _ => ?_) (fun c11 => absurd c11 (by decide))
  refine G.aload_n hX 0 rfl dX4_as_21 ?_
  refine G.iload_n hX 1 rfl dX4_as_22 ?_
  refine G.iconst hX (v := 0) (by decide) dX4_as_23 ?_
  refine G.vi hX (As := [.int (nI t), .int 0]) (st := []) (wr := [(o 5, arI E 7 stt)]) (wf := [(o 0, moO o ik be so tp fr tq vl wr), (o 1, arI E 122 s), (o 5, arI E 7 stt)]) (q0 := 0) (ci := 4) rfl rfl (c_X4_its _ E (t := t) (w := 0) (o := o) (ik := ik) (be := be) (so := so) (tp := tp) (fr := fr) (tq := tq) (vl := vl) (wr := wr) (s := s) (h1 := by omega)) gX4_as_X4_its cp_X4_its (by decide) [0, 1] [2] [1, 2, 0] ⟨rfl, rfl, by decide, rfl⟩ rfl rfl (Nat.le_of_ble_eq_true rfl) dX4_as_24 ?_
  refine G.ie (y := s (2 + 10 * t)) rfl ?_
  refine G.iload_n hX 2 rfl dX4_as_27 ?_
  refine G.s0i hX (As := [.int (s (2 + 10 * t)), .int (nI k)]) (st := []) (c_X4_isUnder _ E (x := s (2 + 10 * t)) (y := nI k) ) gX4_as_X4_isUnder cp_X4_isUnder (by decide) rfl rfl (Nat.le_of_ble_eq_true rfl) dX4_as_28 ?_
  refine G.b_eq hX (tgt := 43) (by decide) dX4_as_31 (fun c31 => ?_) (fun c31 => ?_)
  · refine G.aload_n hX 0 rfl dX4_as_43 ?_
    refine G.ldc hX (v := -1000000003) (by decide +kernel) dX4_as_44 ?_
    refine G.vi hX (As := [.int ((-1000000003))]) (st := []) (wr := [(o 1, arI E 122 s)]) (wf := [(o 0, moO o ik be so tp fr tq vl wr), (o 1, arI E 122 s), (o 5, arI E 7 (upd stt 2 (stt 2 + 1)))]) (q0 := 0) (ci := 4) rfl rfl (c_X4_finds2 _ E (o := o) (ik := ik) (be := be) (so := so) (tp := tp) (fr := fr) (tq := tq) (vl := vl) (wr := wr) (stt := stt) ) gX4_as_X4_finds cp_X4_finds (by decide) [0, 2] [1] [1, 0, 2] ⟨rfl, rfl, by decide, rfl⟩ rfl rfl (Nat.le_of_ble_eq_true rfl) dX4_as_46 ?_
    exact G.iret hX hQ dX4_as_49 (by rfl) (by rfl)
  · exact absurd h3 (by simp [c31])
abbrev rmX4_meet : Room := { frames := 2, cells := 0, slots := 0, locals := 44 }
theorem cp_X4_meet : CP yX4_meet RX4 wsX4_meet 3 2 rmX4_meet := ⟨⟨_, _, _, rfl⟩, rfl, rfl, by decide +kernel⟩
set_option maxHeartbeats 4000000 in
set_option maxRecDepth 100000 in
theorem c_X4_meetbad (l : Launch) (E : EV) (x : Int32) (y : Int32) (o : Nat → Nat) (ik : Int32) (be : Int32) (so : Int32) (tp : Int32) (fr : Int32) (tq : Int32) (vl : Int32) (wr : Int32) (stt : Nat → Int32) (h1 : (inI x 0 5 && inI y 0 1) = false) : CI l yX4_meet wsX4_meet rmX4_meet E [.ref (o 0), .int x, .int y] [(o 0, moO o ik be so tp fr tq vl wr), (o 5, arI E 7 stt)] [(o 0, moO o ik be so tp fr tq vl wr), (o 5, arI E 7 (upd stt 0 (stt 0 + 1)))] ((-1000000001)) := by
  refine CI.of (own := RX4) (cc := cX4_meet) (nL := 3) (rt := (some .int)) (by decide) rfl rfl (Nat.le_of_ble_eq_true rfl) (fun X hX hQ => ?_)
  show G E X 3 0 [(0, .ref (o 0)), (1, .int x), (2, .int y)] [] [(o 0, moO o ik be so tp fr tq vl wr), (o 5, arI E 7 stt)]
  refine G.iload_n hX 1 rfl dX4_meet_0 ?_
  refine G.i2l hX dX4_meet_1 ?_
  refine G.lconst hX (v := 0) (by decide) dX4_meet_2 ?_
  refine G.ldc2 hX (v := 5) (by decide +kernel) dX4_meet_3 ?_
  refine G.s0i hX (As := [.long x.toInt64, .long 0, .long 5]) (st := []) (c_X4_in _ E (v := x.toInt64) (lo := 0) (hi := 5) ) gX4_meet_X4_in cp_X4_in (by decide) rfl rfl (Nat.le_of_ble_eq_true rfl) dX4_meet_6 ?_
  refine G.ie (y := bI (inI x 0 5)) rfl ?_
  refine G.b_eq hX (tgt := 40) (by decide) dX4_meet_9 (fun c9 => ?_) (fun c9 => ?_)
  · refine G.aload_n hX 0 rfl dX4_meet_40 ?_
    refine G.ldc hX (v := -1000000001) (by decide +kernel) dX4_meet_41 ?_
    refine G.vi hX (As := [.int ((-1000000001))]) (st := []) (wr := []) (wf := [(o 0, moO o ik be so tp fr tq vl wr), (o 5, arI E 7 (upd stt 0 (stt 0 + 1)))]) (q0 := 0) (ci := 4) rfl rfl (c_X4_finds0 _ E (o := o) (ik := ik) (be := be) (so := so) (tp := tp) (fr := fr) (tq := tq) (vl := vl) (wr := wr) (stt := stt) ) gX4_meet_X4_finds cp_X4_finds (by decide) [0, 1] [] [0, 1] ⟨rfl, rfl, by decide, rfl⟩ rfl rfl (Nat.le_of_ble_eq_true rfl) dX4_meet_43 ?_
    exact G.iret hX hQ dX4_meet_46 (by rfl) (by rfl)
  · refine G.iload_n hX 2 rfl dX4_meet_12 ?_
    refine G.i2l hX dX4_meet_13 ?_
    refine G.lconst hX (v := 0) (by decide) dX4_meet_14 ?_
    refine G.lconst hX (v := 1) (by decide) dX4_meet_15 ?_
    refine G.s0i hX (As := [.long y.toInt64, .long 0, .long 1]) (st := []) (c_X4_in _ E (v := y.toInt64) (lo := 0) (hi := 1) ) gX4_meet_X4_in cp_X4_in (by decide) rfl rfl (Nat.le_of_ble_eq_true rfl) dX4_meet_16 ?_
    refine G.ie (y := bI (inI y 0 1)) rfl ?_
    refine G.b_eq hX (tgt := 40) (by decide) dX4_meet_19 (fun c19 => ?_) (fun c19 => ?_)
    · refine G.aload_n hX 0 rfl dX4_meet_40 ?_
      refine G.ldc hX (v := -1000000001) (by decide +kernel) dX4_meet_41 ?_
      refine G.vi hX (As := [.int ((-1000000001))]) (st := []) (wr := []) (wf := [(o 0, moO o ik be so tp fr tq vl wr), (o 5, arI E 7 (upd stt 0 (stt 0 + 1)))]) (q0 := 0) (ci := 4) rfl rfl (c_X4_finds0 _ E (o := o) (ik := ik) (be := be) (so := so) (tp := tp) (fr := fr) (tq := tq) (vl := vl) (wr := wr) (stt := stt) ) gX4_meet_X4_finds cp_X4_finds (by decide) [0, 1] [] [0, 1] ⟨rfl, rfl, by decide, rfl⟩ rfl rfl (Nat.le_of_ble_eq_true rfl) dX4_meet_43 ?_
      exact G.iret hX hQ dX4_meet_46 (by rfl) (by rfl)
    · exact absurd h1 (by simp [c9, c19])
set_option maxHeartbeats 4000000 in
set_option maxRecDepth 100000 in
theorem c_X4_meet0 (l : Launch) (E : EV) (pl : Nat) (o : Nat → Nat) (ik : Int32) (be : Int32) (so : Int32) (tp : Int32) (fr : Int32) (tq : Int32) (vl : Int32) (wr : Int32) (s : Nat → Int32) (h1 : pl < 6) : CI l yX4_meet wsX4_meet rmX4_meet E [.ref (o 0), .int (nI pl), .int 0] [(o 0, moO o ik be so tp fr tq vl wr), (o 1, arI E 122 s)] [(o 0, moO o ik be so tp fr tq vl wr), (o 1, arI E 122 (ms_meets s pl false))] (bI (ms_met s pl)) := by
  refine CI.of (own := RX4) (cc := cX4_meet) (nL := 3) (rt := (some .int)) (by decide) rfl rfl (Nat.le_of_ble_eq_true rfl) (fun X hX hQ => ?_)
  show G E X 3 0 [(0, .ref (o 0)), (1, .int (nI pl)), (2, .int 0)] [] [(o 0, moO o ik be so tp fr tq vl wr), (o 1, arI E 122 s)]
  refine G.iload_n hX 1 rfl dX4_meet_0 ?_
  refine G.i2l hX dX4_meet_1 ?_
  refine G.le (y := lN pl) (nI_l (by omega)) ?_
  refine G.lconst hX (v := 0) (by decide) dX4_meet_2 ?_
  refine G.ldc2 hX (v := 5) (by decide +kernel) dX4_meet_3 ?_
  refine G.s0i hX (As := [.long (lN pl), .long 0, .long 5]) (st := []) (c_X4_inn _ E (v := pl) (lo := 0) (hi := 5) (h1 := by omega) (h2 := by omega) (h3 := by omega)) gX4_meet_X4_in cp_X4_in (by decide) rfl rfl (Nat.le_of_ble_eq_true rfl) dX4_meet_6 ?_
  refine G.if_eq hX (tgt := 40) (by decide) dX4_meet_9 (fun c9 => absurd c9 (by decide)) (fun _ => ?_)
  refine G.iload_n hX 2 rfl dX4_meet_12 ?_
  refine G.i2l hX dX4_meet_13 ?_
  refine G.le (y := 0) (by decide) ?_
  refine G.lconst hX (v := 0) (by decide) dX4_meet_14 ?_
  refine G.lconst hX (v := 1) (by decide) dX4_meet_15 ?_
  refine G.s0i hX (As := [.long 0, .long 0, .long 1]) (st := []) (c_X4_inn _ E (v := 0) (lo := 0) (hi := 1) (h1 := by omega) (h2 := by omega) (h3 := by omega)) gX4_meet_X4_in cp_X4_in (by decide) rfl rfl (Nat.le_of_ble_eq_true rfl) dX4_meet_16 ?_
  refine G.if_eq hX (tgt := 40) (by decide) dX4_meet_19 (fun c19 => absurd c19 (by decide)) (fun _ => ?_)
  refine G.aload_n hX 0 rfl dX4_meet_22 ?_
  refine G.iload_n hX 1 rfl dX4_meet_23 ?_
  refine G.iload_n hX 2 rfl dX4_meet_24 ?_
  refine G.iconst hX (v := 1) (by decide) dX4_meet_25 ?_
  refine G.icmp_ne hX (tgt := 33) (by decide) dX4_meet_26 (fun _ => ?_) (fun c26 => absurd c26 (by decide))
  refine G.iconst hX (v := 0) (by decide) dX4_meet_33 ?_
  refine G.vi hX (As := [.int (nI pl), .int 0]) (st := []) (wr := []) (wf := [(o 0, moO o ik be so tp fr tq vl wr), (o 1, arI E 122 (ms_meets s pl false))]) (q0 := 0) (ci := 4) rfl rfl (c_X4_meets _ E (pl := pl) (b := false) (o := o) (ik := ik) (be := be) (so := so) (tp := tp) (fr := fr) (tq := tq) (vl := vl) (wr := wr) (s := s) (h1 := by omega)) gX4_meet_X4_meets cp_X4_meets (by decide) [0, 1] [] [0, 1] ⟨rfl, rfl, by decide, rfl⟩ rfl rfl (Nat.le_of_ble_eq_true rfl) dX4_meet_34 ?_
  refine G.goto hX (tgt := 46) (by decide) dX4_meet_37 ?_
  exact G.iret hX hQ dX4_meet_46 (by rfl) (by rfl)
set_option maxHeartbeats 4000000 in
set_option maxRecDepth 100000 in
theorem c_X4_meet1 (l : Launch) (E : EV) (pl : Nat) (o : Nat → Nat) (ik : Int32) (be : Int32) (so : Int32) (tp : Int32) (fr : Int32) (tq : Int32) (vl : Int32) (wr : Int32) (s : Nat → Int32) (h1 : pl < 6) : CI l yX4_meet wsX4_meet rmX4_meet E [.ref (o 0), .int (nI pl), .int 1] [(o 0, moO o ik be so tp fr tq vl wr), (o 1, arI E 122 s)] [(o 0, moO o ik be so tp fr tq vl wr), (o 1, arI E 122 (ms_meets s pl true))] (bI (ms_met s pl)) := by
  refine CI.of (own := RX4) (cc := cX4_meet) (nL := 3) (rt := (some .int)) (by decide) rfl rfl (Nat.le_of_ble_eq_true rfl) (fun X hX hQ => ?_)
  show G E X 3 0 [(0, .ref (o 0)), (1, .int (nI pl)), (2, .int 1)] [] [(o 0, moO o ik be so tp fr tq vl wr), (o 1, arI E 122 s)]
  refine G.iload_n hX 1 rfl dX4_meet_0 ?_
  refine G.i2l hX dX4_meet_1 ?_
  refine G.le (y := lN pl) (nI_l (by omega)) ?_
  refine G.lconst hX (v := 0) (by decide) dX4_meet_2 ?_
  refine G.ldc2 hX (v := 5) (by decide +kernel) dX4_meet_3 ?_
  refine G.s0i hX (As := [.long (lN pl), .long 0, .long 5]) (st := []) (c_X4_inn _ E (v := pl) (lo := 0) (hi := 5) (h1 := by omega) (h2 := by omega) (h3 := by omega)) gX4_meet_X4_in cp_X4_in (by decide) rfl rfl (Nat.le_of_ble_eq_true rfl) dX4_meet_6 ?_
  refine G.if_eq hX (tgt := 40) (by decide) dX4_meet_9 (fun c9 => absurd c9 (by decide)) (fun _ => ?_)
  refine G.iload_n hX 2 rfl dX4_meet_12 ?_
  refine G.i2l hX dX4_meet_13 ?_
  refine G.le (y := 1) (by decide) ?_
  refine G.lconst hX (v := 0) (by decide) dX4_meet_14 ?_
  refine G.lconst hX (v := 1) (by decide) dX4_meet_15 ?_
  refine G.s0i hX (As := [.long 1, .long 0, .long 1]) (st := []) (c_X4_inn _ E (v := 1) (lo := 0) (hi := 1) (h1 := by omega) (h2 := by omega) (h3 := by omega)) gX4_meet_X4_in cp_X4_in (by decide) rfl rfl (Nat.le_of_ble_eq_true rfl) dX4_meet_16 ?_
  refine G.if_eq hX (tgt := 40) (by decide) dX4_meet_19 (fun c19 => absurd c19 (by decide)) (fun _ => ?_)
  refine G.aload_n hX 0 rfl dX4_meet_22 ?_
  refine G.iload_n hX 1 rfl dX4_meet_23 ?_
  refine G.iload_n hX 2 rfl dX4_meet_24 ?_
  refine G.iconst hX (v := 1) (by decide) dX4_meet_25 ?_
  refine G.icmp_ne hX (tgt := 33) (by decide) dX4_meet_26 (fun c26 => absurd c26 (by decide)) (fun _ => ?_)
  refine G.iconst hX (v := 1) (by decide) dX4_meet_29 ?_
  refine G.goto hX (tgt := 34) (by decide) dX4_meet_30 ?_
  refine G.vi hX (As := [.int (nI pl), .int 1]) (st := []) (wr := []) (wf := [(o 0, moO o ik be so tp fr tq vl wr), (o 1, arI E 122 (ms_meets s pl true))]) (q0 := 0) (ci := 4) rfl rfl (c_X4_meets _ E (pl := pl) (b := true) (o := o) (ik := ik) (be := be) (so := so) (tp := tp) (fr := fr) (tq := tq) (vl := vl) (wr := wr) (s := s) (h1 := by omega)) gX4_meet_X4_meets cp_X4_meets (by decide) [0, 1] [] [0, 1] ⟨rfl, rfl, by decide, rfl⟩ rfl rfl (Nat.le_of_ble_eq_true rfl) dX4_meet_34 ?_
  refine G.goto hX (tgt := 46) (by decide) dX4_meet_37 ?_
  exact G.iret hX hQ dX4_meet_46 (by rfl) (by rfl)
abbrev rmX4_tell : Room := { frames := 5, cells := 0, slots := 0, locals := 110 }
theorem cp_X4_tell : CP yX4_tell RX4 wsX4_tell 3 2 rmX4_tell := ⟨⟨_, _, _, rfl⟩, rfl, rfl, by decide +kernel⟩
theorem inc_X4_tell_4 : ∀ w ∈ u_ws RX4 TX4 19, w ∈ wsX4_tell := by decide +kernel
set_option maxHeartbeats 4000000 in
set_option maxRecDepth 100000 in
theorem c_X4_tellbad (l : Launch) (E : EV) (x : Int32) (y : Int32) (o : Nat → Nat) (ik : Int32) (be : Int32) (so : Int32) (tp : Int32) (fr : Int32) (tq : Int32) (vl : Int32) (wr : Int32) (stt : Nat → Int32) (h1 : (inI x 0 11 && inI y 0 7) = false) : CI l yX4_tell wsX4_tell rmX4_tell E [.ref (o 0), .int x, .int y] [(o 0, moO o ik be so tp fr tq vl wr), (o 5, arI E 7 stt)] [(o 0, moO o ik be so tp fr tq vl wr), (o 5, arI E 7 (upd stt 0 (stt 0 + 1)))] ((-1000000001)) := by
  refine CI.of (own := RX4) (cc := cX4_tell) (nL := 3) (rt := (some .int)) (by decide) rfl rfl (Nat.le_of_ble_eq_true rfl) (fun X hX hQ => ?_)
  show G E X 3 0 [(0, .ref (o 0)), (1, .int x), (2, .int y)] [] [(o 0, moO o ik be so tp fr tq vl wr), (o 5, arI E 7 stt)]
  refine G.iload_n hX 1 rfl dX4_tell_0 ?_
  refine G.s0i hX (As := [.int x]) (st := []) (c_X4_isTree _ E (x := x) ) gX4_tell_X4_isTree cp_X4_isTree (by decide) rfl rfl (Nat.le_of_ble_eq_true rfl) dX4_tell_1 ?_
  refine G.b_eq hX (tgt := 14) (by decide) dX4_tell_4 (fun c4 => ?_) (fun c4 => ?_)
  · refine G.aload_n hX 0 rfl dX4_tell_14 ?_
    refine G.ldc hX (v := -1000000001) (by decide +kernel) dX4_tell_15 ?_
    refine G.vi hX (As := [.int ((-1000000001))]) (st := []) (wr := []) (wf := [(o 0, moO o ik be so tp fr tq vl wr), (o 5, arI E 7 (upd stt 0 (stt 0 + 1)))]) (q0 := 0) (ci := 4) rfl rfl (c_X4_finds0 _ E (o := o) (ik := ik) (be := be) (so := so) (tp := tp) (fr := fr) (tq := tq) (vl := vl) (wr := wr) (stt := stt) ) gX4_tell_X4_finds cp_X4_finds (by decide) [0, 1] [] [0, 1] ⟨rfl, rfl, by decide, rfl⟩ rfl rfl (Nat.le_of_ble_eq_true rfl) dX4_tell_17 ?_
    exact G.iret hX hQ dX4_tell_20 (by rfl) (by rfl)
  · refine G.iload_n hX 2 rfl dX4_tell_7 ?_
    refine G.s0i hX (As := [.int y]) (st := []) (c_X4_isMessage _ E (x := y) ) gX4_tell_X4_isMessage cp_X4_isMessage (by decide) rfl rfl (Nat.le_of_ble_eq_true rfl) dX4_tell_8 ?_
    refine G.b_ne hX (tgt := 21) (by decide) dX4_tell_11 (fun c11 => ?_) (fun c11 => ?_)
    · exact absurd h1 (by simp [c4, c11])
    · refine G.aload_n hX 0 rfl dX4_tell_14 ?_
      refine G.ldc hX (v := -1000000001) (by decide +kernel) dX4_tell_15 ?_
      refine G.vi hX (As := [.int ((-1000000001))]) (st := []) (wr := []) (wf := [(o 0, moO o ik be so tp fr tq vl wr), (o 5, arI E 7 (upd stt 0 (stt 0 + 1)))]) (q0 := 0) (ci := 4) rfl rfl (c_X4_finds0 _ E (o := o) (ik := ik) (be := be) (so := so) (tp := tp) (fr := fr) (tq := tq) (vl := vl) (wr := wr) (stt := stt) ) gX4_tell_X4_finds cp_X4_finds (by decide) [0, 1] [] [0, 1] ⟨rfl, rfl, by decide, rfl⟩ rfl rfl (Nat.le_of_ble_eq_true rfl) dX4_tell_17 ?_
      exact G.iret hX hQ dX4_tell_20 (by rfl) (by rfl)
set_option maxHeartbeats 4000000 in
set_option maxRecDepth 100000 in
theorem c_X4_tellk (l : Launch) (E : EV) (t : Nat) (m : Nat) (o : Nat → Nat) (ik : Int32) (be : Int32) (so : Int32) (tp : Int32) (fr : Int32) (tq : Int32) (vl : Int32) (wr : Int32) (s : Nat → Int32) (stt : Nat → Int32) (h1 : t < 12) (h2 : m < 8) (h3 : ms_k s t m = true) : CI l yX4_tell wsX4_tell rmX4_tell E [.ref (o 0), .int (nI t), .int (nI m)] [(o 0, moO o ik be so tp fr tq vl wr), (o 1, arI E 122 s), (o 5, arI E 7 stt)] [(o 0, moO o ik be so tp fr tq vl wr), (o 1, arI E 122 s), (o 5, arI E 7 (upd stt 4 (stt 4 + 1)))] ((-1000000005)) := by
  refine CI.of (own := RX4) (cc := cX4_tell) (nL := 3) (rt := (some .int)) (by decide) rfl rfl (Nat.le_of_ble_eq_true rfl) (fun X hX hQ => ?_)
  show G E X 3 0 [(0, .ref (o 0)), (1, .int (nI t)), (2, .int (nI m))] [] [(o 0, moO o ik be so tp fr tq vl wr), (o 1, arI E 122 s), (o 5, arI E 7 stt)]
  refine G.iload_n hX 1 rfl dX4_tell_0 ?_
  refine G.s0i hX (As := [.int (nI t)]) (st := []) (c_X4_isTreen _ E (x := t) (h1 := by omega)) gX4_tell_X4_isTree cp_X4_isTree (by decide) rfl rfl (Nat.le_of_ble_eq_true rfl) dX4_tell_1 ?_
  refine G.if_eq hX (tgt := 14) (by decide) dX4_tell_4 (fun c4 => absurd c4 (by decide)) (fun _ => ?_)
  refine G.iload_n hX 2 rfl dX4_tell_7 ?_
  refine G.s0i hX (As := [.int (nI m)]) (st := []) (c_X4_isMessagen _ E (x := m) (h1 := by omega)) gX4_tell_X4_isMessage cp_X4_isMessage (by decide) rfl rfl (Nat.le_of_ble_eq_true rfl) dX4_tell_8 ?_
  refine G.if_ne hX (tgt := 21) (by decide) dX4_tell_11 (fun _ => ?_) (fun c11 => absurd c11 (by decide))
  refine G.aload_n hX 0 rfl dX4_tell_21 ?_
  refine G.iload_n hX 1 rfl dX4_tell_22 ?_
  refine G.iload_n hX 2 rfl dX4_tell_23 ?_
  refine G.vi hX (As := [.int (nI t), .int (nI m)]) (st := []) (wr := [(o 5, arI E 7 stt)]) (wf := [(o 0, moO o ik be so tp fr tq vl wr), (o 1, arI E 122 s), (o 5, arI E 7 stt)]) (q0 := 0) (ci := 4) rfl rfl (c_X4_isKnown _ E (t := t) (m := m) (o := o) (ik := ik) (be := be) (so := so) (tp := tp) (fr := fr) (tq := tq) (vl := vl) (wr := wr) (s := s) (h1 := by omega) (h2 := by omega)) gX4_tell_X4_isKnown cp_X4_isKnown (by decide) [0, 1] [2] [1, 2, 0] ⟨rfl, rfl, by decide, rfl⟩ rfl rfl (Nat.le_of_ble_eq_true rfl) dX4_tell_24 ?_
  refine G.b_eq hX (tgt := 37) (by decide) dX4_tell_27 (fun c27 => ?_) (fun c27 => ?_)
  · exact absurd h3 (by simp [c27])
  · refine G.aload_n hX 0 rfl dX4_tell_30 ?_
    refine G.ldc hX (v := -1000000005) (by decide +kernel) dX4_tell_31 ?_
    refine G.vi hX (As := [.int ((-1000000005))]) (st := []) (wr := [(o 1, arI E 122 s)]) (wf := [(o 0, moO o ik be so tp fr tq vl wr), (o 1, arI E 122 s), (o 5, arI E 7 (upd stt 4 (stt 4 + 1)))]) (q0 := 0) (ci := 4) rfl rfl (c_X4_finds4 _ E (o := o) (ik := ik) (be := be) (so := so) (tp := tp) (fr := fr) (tq := tq) (vl := vl) (wr := wr) (stt := stt) ) gX4_tell_X4_finds cp_X4_finds (by decide) [0, 2] [1] [1, 0, 2] ⟨rfl, rfl, by decide, rfl⟩ rfl rfl (Nat.le_of_ble_eq_true rfl) dX4_tell_33 ?_
    exact G.iret hX hQ dX4_tell_36 (by rfl) (by rfl)
set_option maxHeartbeats 4000000 in
set_option maxRecDepth 100000 in
theorem c_X4_tellu (l : Launch) (E : EV) (t : Nat) (m : Nat) (o : Nat → Nat) (ik : Int32) (be : Int32) (so : Int32) (tp : Int32) (fr : Int32) (tq : Int32) (vl : Int32) (wr : Int32) (s : Nat → Int32) (h1 : t < 12) (h2 : m < 8) (h3 : ms_k s t m = false) : CI l yX4_tell wsX4_tell rmX4_tell E [.ref (o 0), .int (nI t), .int (nI m)] [(o 0, moO o ik be so tp fr tq vl wr), (o 1, arI E 122 s)] [(o 0, moO o ik be so tp fr tq vl wr), (o 1, arI E 122 (upd s (2 + 10 * t + (2 + m)) (s 0)))] (nI (ms_kn (upd s (2 + 10 * t + (2 + m)) (s 0)) m)) := by
  refine CI.of (own := RX4) (cc := cX4_tell) (nL := 3) (rt := (some .int)) (by decide) rfl rfl (Nat.le_of_ble_eq_true rfl) (fun X hX hQ => ?_)
  show G E X 3 0 [(0, .ref (o 0)), (1, .int (nI t)), (2, .int (nI m))] [] [(o 0, moO o ik be so tp fr tq vl wr), (o 1, arI E 122 s)]
  refine G.iload_n hX 1 rfl dX4_tell_0 ?_
  refine G.s0i hX (As := [.int (nI t)]) (st := []) (c_X4_isTreen _ E (x := t) (h1 := by omega)) gX4_tell_X4_isTree cp_X4_isTree (by decide) rfl rfl (Nat.le_of_ble_eq_true rfl) dX4_tell_1 ?_
  refine G.if_eq hX (tgt := 14) (by decide) dX4_tell_4 (fun c4 => absurd c4 (by decide)) (fun _ => ?_)
  refine G.iload_n hX 2 rfl dX4_tell_7 ?_
  refine G.s0i hX (As := [.int (nI m)]) (st := []) (c_X4_isMessagen _ E (x := m) (h1 := by omega)) gX4_tell_X4_isMessage cp_X4_isMessage (by decide) rfl rfl (Nat.le_of_ble_eq_true rfl) dX4_tell_8 ?_
  refine G.if_ne hX (tgt := 21) (by decide) dX4_tell_11 (fun _ => ?_) (fun c11 => absurd c11 (by decide))
  refine G.aload_n hX 0 rfl dX4_tell_21 ?_
  refine G.iload_n hX 1 rfl dX4_tell_22 ?_
  refine G.iload_n hX 2 rfl dX4_tell_23 ?_
  refine G.vi hX (As := [.int (nI t), .int (nI m)]) (st := []) (wr := []) (wf := [(o 0, moO o ik be so tp fr tq vl wr), (o 1, arI E 122 s)]) (q0 := 0) (ci := 4) rfl rfl (c_X4_isKnown _ E (t := t) (m := m) (o := o) (ik := ik) (be := be) (so := so) (tp := tp) (fr := fr) (tq := tq) (vl := vl) (wr := wr) (s := s) (h1 := by omega) (h2 := by omega)) gX4_tell_X4_isKnown cp_X4_isKnown (by decide) [0, 1] [] [0, 1] ⟨rfl, rfl, by decide, rfl⟩ rfl rfl (Nat.le_of_ble_eq_true rfl) dX4_tell_24 ?_
  refine G.b_eq hX (tgt := 37) (by decide) dX4_tell_27 (fun c27 => ?_) (fun c27 => ?_)
  · refine G.aload_n hX 0 rfl dX4_tell_37 ?_
    refine G.get hX inc_X4_tell_4 0 rfl rfl 0 (by decide) (by decide +kernel) rfl dX4_tell_38 ?_
    refine G.iload_n hX 1 rfl dX4_tell_41 ?_
    refine G.iconst hX (v := 2) (by decide) dX4_tell_42 ?_
    refine G.iload_n hX 2 rfl dX4_tell_43 ?_
    refine G.iadd hX dX4_tell_44 ?_
    refine G.ie (nI_add 2 m) ?_
    refine G.s0i hX (As := [.int (nI t), .int (nI (2 + m))]) (st := [.ref (o 1)]) (c_X4_spotOf _ E (t := t) (w := 2 + m) ) gX4_tell_X4_spotOf cp_X4_spotOf (by decide) rfl rfl (Nat.le_of_ble_eq_true rfl) dX4_tell_45 ?_
    refine G.aload_n hX 0 rfl dX4_tell_48 ?_
    refine G.get hX inc_X4_tell_4 0 rfl rfl 0 (by decide) (by decide +kernel) rfl dX4_tell_49 ?_
    refine G.iconst hX (v := 0) (by decide) dX4_tell_52 ?_
    refine G.iald hX (j := 0) 1 rfl (by omega) (by omega) dX4_tell_53 ?_
    refine G.iast hX (j := 2 + 10 * t + (2 + m)) (ws' := [(o 0, moO o ik be so tp fr tq vl wr), (o 1, arI E 122 (upd s (2 + 10 * t + (2 + m)) (s 0)))]) 1 rfl (by omega) (by omega) rfl rfl dX4_tell_54 ?_
    refine G.aload_n hX 0 rfl dX4_tell_55 ?_
    refine G.iload_n hX 2 rfl dX4_tell_56 ?_
    refine G.vi hX (As := [.int (nI m)]) (st := []) (wr := []) (wf := [(o 0, moO o ik be so tp fr tq vl wr), (o 1, arI E 122 (upd s (2 + 10 * t + (2 + m)) (s 0)))]) (q0 := 0) (ci := 4) rfl rfl (c_X4_knowing _ E (m := m) (o := o) (ik := ik) (be := be) (so := so) (tp := tp) (fr := fr) (tq := tq) (vl := vl) (wr := wr) (s := upd s (2 + 10 * t + (2 + m)) (s 0)) (h1 := by omega)) gX4_tell_X4_knowing cp_X4_knowing (by decide) [0, 1] [] [0, 1] ⟨rfl, rfl, by decide, rfl⟩ rfl rfl (Nat.le_of_ble_eq_true rfl) dX4_tell_57 ?_
    exact G.iret hX hQ dX4_tell_60 (by rfl) (by rfl)
  · exact absurd h3 (by simp [c27])
abbrev rmX4_forget : Room := { frames := 5, cells := 0, slots := 0, locals := 110 }
theorem cp_X4_forget : CP yX4_forget RX4 wsX4_forget 4 1 rmX4_forget := ⟨⟨_, _, _, rfl⟩, rfl, rfl, by decide +kernel⟩
theorem inc_X4_forget_4 : ∀ w ∈ u_ws RX4 TX4 19, w ∈ wsX4_forget := by decide +kernel
set_option maxHeartbeats 4000000 in
set_option maxRecDepth 100000 in
theorem c_X4_forgetbad (l : Launch) (E : EV) (x : Int32) (o : Nat → Nat) (ik : Int32) (be : Int32) (so : Int32) (tp : Int32) (fr : Int32) (tq : Int32) (vl : Int32) (wr : Int32) (stt : Nat → Int32) (h1 : inI x 0 7 = false) : CI l yX4_forget wsX4_forget rmX4_forget E [.ref (o 0), .int x] [(o 0, moO o ik be so tp fr tq vl wr), (o 5, arI E 7 stt)] [(o 0, moO o ik be so tp fr tq vl wr), (o 5, arI E 7 (upd stt 0 (stt 0 + 1)))] ((-1000000001)) := by
  refine CI.of (own := RX4) (cc := cX4_forget) (nL := 4) (rt := (some .int)) (by decide) rfl rfl (Nat.le_of_ble_eq_true rfl) (fun X hX hQ => ?_)
  show G E X 4 0 [(0, .ref (o 0)), (1, .int x)] [] [(o 0, moO o ik be so tp fr tq vl wr), (o 5, arI E 7 stt)]
  refine G.iload_n hX 1 rfl dX4_forget_0 ?_
  refine G.s0i hX (As := [.int x]) (st := []) (c_X4_isMessage _ E (x := x) ) gX4_forget_X4_isMessage cp_X4_isMessage (by decide) rfl rfl (Nat.le_of_ble_eq_true rfl) dX4_forget_1 ?_
  refine G.b_ne hX (tgt := 14) (by decide) dX4_forget_4 (fun c4 => ?_) (fun c4 => ?_)
  · exact absurd h1 (by simp [c4])
  · refine G.aload_n hX 0 rfl dX4_forget_7 ?_
    refine G.ldc hX (v := -1000000001) (by decide +kernel) dX4_forget_8 ?_
    refine G.vi hX (As := [.int ((-1000000001))]) (st := []) (wr := []) (wf := [(o 0, moO o ik be so tp fr tq vl wr), (o 5, arI E 7 (upd stt 0 (stt 0 + 1)))]) (q0 := 0) (ci := 4) rfl rfl (c_X4_finds0 _ E (o := o) (ik := ik) (be := be) (so := so) (tp := tp) (fr := fr) (tq := tq) (vl := vl) (wr := wr) (stt := stt) ) gX4_forget_X4_finds cp_X4_finds (by decide) [0, 1] [] [0, 1] ⟨rfl, rfl, by decide, rfl⟩ rfl rfl (Nat.le_of_ble_eq_true rfl) dX4_forget_10 ?_
    exact G.iret hX hQ dX4_forget_13 (by rfl) (by rfl)
set_option maxHeartbeats 4000000 in
set_option maxRecDepth 100000 in
theorem c_X4_forgetok (l : Launch) (E : EV) (m : Nat) (o : Nat → Nat) (ik : Int32) (be : Int32) (so : Int32) (tp : Int32) (fr : Int32) (tq : Int32) (vl : Int32) (wr : Int32) (s : Nat → Int32) (h1 : m < 8) : CI l yX4_forget wsX4_forget rmX4_forget E [.ref (o 0), .int (nI m)] [(o 0, moO o ik be so tp fr tq vl wr), (o 1, arI E 122 s)] [(o 0, moO o ik be so tp fr tq vl wr), (o 1, arI E 122 (ms_fg s m))] (nI (ms_kn s m)) := by
  refine CI.of (own := RX4) (cc := cX4_forget) (nL := 4) (rt := (some .int)) (by decide) rfl rfl (Nat.le_of_ble_eq_true rfl) (fun X hX hQ => ?_)
  show G E X 4 0 [(0, .ref (o 0)), (1, .int (nI m))] [] [(o 0, moO o ik be so tp fr tq vl wr), (o 1, arI E 122 s)]
  refine G.iload_n hX 1 rfl dX4_forget_0 ?_
  refine G.s0i hX (As := [.int (nI m)]) (st := []) (c_X4_isMessagen _ E (x := m) (h1 := by omega)) gX4_forget_X4_isMessage cp_X4_isMessage (by decide) rfl rfl (Nat.le_of_ble_eq_true rfl) dX4_forget_1 ?_
  refine G.if_ne hX (tgt := 14) (by decide) dX4_forget_4 (fun _ => ?_) (fun c4 => absurd c4 (by decide))
  refine G.aload_n hX 0 rfl dX4_forget_14 ?_
  refine G.iload_n hX 1 rfl dX4_forget_15 ?_
  refine G.vi hX (As := [.int (nI m)]) (st := []) (wr := []) (wf := [(o 0, moO o ik be so tp fr tq vl wr), (o 1, arI E 122 s)]) (q0 := 0) (ci := 4) rfl rfl (c_X4_knowing _ E (m := m) (o := o) (ik := ik) (be := be) (so := so) (tp := tp) (fr := fr) (tq := tq) (vl := vl) (wr := wr) (s := s) (h1 := by omega)) gX4_forget_X4_knowing cp_X4_knowing (by decide) [0, 1] [] [0, 1] ⟨rfl, rfl, by decide, rfl⟩ rfl rfl (Nat.le_of_ble_eq_true rfl) dX4_forget_16 ?_
  refine G.istore_n hX (lv' := [(2, .int (nI (ms_kn s m))), (0, .ref (o 0)), (1, .int (nI m))]) rfl (by decide) rfl dX4_forget_19 ?_
  refine G.iconst hX (v := 0) (by decide) dX4_forget_20 ?_
  refine G.istore_n hX (lv' := [(3, .int 0), (2, .int (nI (ms_kn s m))), (0, .ref (o 0)), (1, .int (nI m))]) rfl (by decide) rfl dX4_forget_21 ?_
  have L22 : ∀ (n : Nat) (t : Nat), t ≤ 12 → 13 ≤ t + n → G E X 4 22 [(0, .ref (o 0)), (1, .int (nI m)), (2, .int (nI (ms_kn s m))), (3, .int (nI t))] [] [(o 0, moO o ik be so tp fr tq vl wr), (o 1, arI E 122 (it (ms_fgS m) t s))] := by
    intro n
    induction n with
    | zero => intro t hl22_0 hl22_1; exact absurd hl22_1 (by omega)
    | succ n ih22 =>
      intro t hl22_0 hl22_1
      refine G.iload_n hX 3 rfl dX4_forget_22 ?_
      refine G.bipush hX (v := 12) (by decide) dX4_forget_23 ?_
      refine G.n_ge hX (a := t) (b := 12) (tgt := 47) (by omega) (by omega) (by decide) dX4_forget_25 (fun c25 => ?_) (fun c25 => ?_)
      · refine G.iload_n hX 2 rfl dX4_forget_47 ?_
        exact G.iret hX hQ dX4_forget_48 (by rfl) (by obtain rfl : t = 12 := (by omega); rfl)
      · refine G.aload_n hX 0 rfl dX4_forget_28 ?_
        refine G.get hX inc_X4_forget_4 0 rfl rfl 0 (by decide) (by decide +kernel) rfl dX4_forget_29 ?_
        refine G.iload_n hX 3 rfl dX4_forget_32 ?_
        refine G.iconst hX (v := 2) (by decide) dX4_forget_33 ?_
        refine G.iload_n hX 1 rfl dX4_forget_34 ?_
        refine G.iadd hX dX4_forget_35 ?_
        refine G.ie (nI_add 2 m) ?_
        refine G.s0i hX (As := [.int (nI t), .int (nI (2 + m))]) (st := [.ref (o 1)]) (c_X4_spotOf _ E (t := t) (w := 2 + m) ) gX4_forget_X4_spotOf cp_X4_spotOf (by decide) rfl rfl (Nat.le_of_ble_eq_true rfl) dX4_forget_36 ?_
        refine G.iconst hX (v := -1) (by decide) dX4_forget_39 ?_
        refine G.iast hX (j := 2 + 10 * t + (2 + m)) (ws' := [(o 0, moO o ik be so tp fr tq vl wr), (o 1, arI E 122 (upd (it (ms_fgS m) t s) (2 + 10 * t + (2 + m)) ((-1))))]) 1 rfl (by omega) (by omega) rfl rfl dX4_forget_40 ?_
        refine G.iinc hX (n := 1) (lv' := [(3, .int (nI (t + 1))), (0, .ref (o 0)), (1, .int (nI m)), (2, .int (nI (ms_kn s m)))]) 3 rfl (inc_nI t 1 rfl) (by decide) rfl dX4_forget_41 ?_
        refine G.goto hX (tgt := 22) (by decide) dX4_forget_44 ?_
        refine G.lvp (lv' := [(0, .ref (o 0)), (1, .int (nI m)), (2, .int (nI (ms_kn s m))), (3, .int (nI (t + 1)))]) [1, 2, 3, 0] rfl ?_
        refine G.lve (lv' := [(0, .ref (o 0)), (1, .int (nI m)), (2, .int (nI (ms_kn s m))), (3, .int (nI ((t + 1))))]) (by rfl) ?_
        refine G.we (ws' := [(o 0, moO o ik be so tp fr tq vl wr), (o 1, arI E 122 (it (ms_fgS m) (t + 1) s))]) (by rfl) ?_
        exact ih22 (t + 1) (by omega) (by omega)
  refine G.lvp (lv' := [(0, .ref (o 0)), (1, .int (nI m)), (2, .int (nI (ms_kn s m))), (3, .int 0)]) [2, 3, 1, 0] rfl ?_
  refine G.lve (lv' := [(0, .ref (o 0)), (1, .int (nI m)), (2, .int (nI (ms_kn s m))), (3, .int (nI 0))]) (by rfl) ?_
  refine G.we (ws' := [(o 0, moO o ik be so tp fr tq vl wr), (o 1, arI E 122 (it (ms_fgS m) 0 s))]) (by rfl) ?_
  exact L22 13 0 (by omega) (by omega)
abbrev rmX4_years : Room := { frames := 8, cells := 0, slots := 0, locals := 179 }
theorem cp_X4_years : CP yX4_years RX4 wsX4_years 2 1 rmX4_years := ⟨⟨_, _, _, rfl⟩, rfl, rfl, by decide +kernel⟩
theorem inc_X4_years_4 : ∀ w ∈ u_ws RX4 TX4 19, w ∈ wsX4_years := by decide +kernel
set_option maxHeartbeats 4000000 in
set_option maxRecDepth 100000 in
theorem c_X4_yearsbad (l : Launch) (E : EV) (x : Int32) (o : Nat → Nat) (ik : Int32) (be : Int32) (so : Int32) (tp : Int32) (fr : Int32) (tq : Int32) (vl : Int32) (wr : Int32) (stt : Nat → Int32) (h1 : inI x 1 100 = false) : CI l yX4_years wsX4_years rmX4_years E [.ref (o 0), .int x] [(o 0, moO o ik be so tp fr tq vl wr), (o 5, arI E 7 stt)] [(o 0, moO o ik be so tp fr tq vl wr), (o 5, arI E 7 (upd stt 0 (stt 0 + 1)))] ((-1000000001)) := by
  refine CI.of (own := RX4) (cc := cX4_years) (nL := 2) (rt := (some .int)) (by decide) rfl rfl (Nat.le_of_ble_eq_true rfl) (fun X hX hQ => ?_)
  show G E X 2 0 [(0, .ref (o 0)), (1, .int x)] [] [(o 0, moO o ik be so tp fr tq vl wr), (o 5, arI E 7 stt)]
  refine G.iload_n hX 1 rfl dX4_years_0 ?_
  refine G.i2l hX dX4_years_1 ?_
  refine G.lconst hX (v := 1) (by decide) dX4_years_2 ?_
  refine G.ldc2 hX (v := 100) (by decide +kernel) dX4_years_3 ?_
  refine G.s0i hX (As := [.long x.toInt64, .long 1, .long 100]) (st := []) (c_X4_in _ E (v := x.toInt64) (lo := 1) (hi := 100) ) gX4_years_X4_in cp_X4_in (by decide) rfl rfl (Nat.le_of_ble_eq_true rfl) dX4_years_6 ?_
  refine G.ie (y := bI (inI x 1 100)) rfl ?_
  refine G.b_ne hX (tgt := 19) (by decide) dX4_years_9 (fun c9 => ?_) (fun c9 => ?_)
  · exact absurd h1 (by simp [c9])
  · refine G.aload_n hX 0 rfl dX4_years_12 ?_
    refine G.ldc hX (v := -1000000001) (by decide +kernel) dX4_years_13 ?_
    refine G.vi hX (As := [.int ((-1000000001))]) (st := []) (wr := []) (wf := [(o 0, moO o ik be so tp fr tq vl wr), (o 5, arI E 7 (upd stt 0 (stt 0 + 1)))]) (q0 := 0) (ci := 4) rfl rfl (c_X4_finds0 _ E (o := o) (ik := ik) (be := be) (so := so) (tp := tp) (fr := fr) (tq := tq) (vl := vl) (wr := wr) (stt := stt) ) gX4_years_X4_finds cp_X4_finds (by decide) [0, 1] [] [0, 1] ⟨rfl, rfl, by decide, rfl⟩ rfl rfl (Nat.le_of_ble_eq_true rfl) dX4_years_15 ?_
    exact G.iret hX hQ dX4_years_18 (by rfl) (by rfl)
set_option maxHeartbeats 4000000 in
set_option maxRecDepth 100000 in
theorem c_X4_yearsok (l : Launch) (E : EV) (n0 : Nat) (o : Nat → Nat) (ik : Int32) (be : Int32) (so : Int32) (tp : Int32) (fr : Int32) (tq : Int32) (vl : Int32) (wr : Int32) (s : Nat → Int32) (ge : Nat → Int32) (h1 : 1 ≤ n0) (h2 : n0 ≤ 100) (h3 : s 0 + nI n0 ≤ 9999) : CI l yX4_years wsX4_years rmX4_years E [.ref (o 0), .int (nI n0)] [(o 0, moO o ik be so tp fr tq vl wr), (o 1, arI E 122 s), (o 6, arI E 12 ge)] [(o 0, moO o ik be so tp fr tq vl wr), (o 1, arI E 122 (ms_ys n0 s)), (o 6, arI E 12 (ms_gs n0 s ge))] (nI (ms_home (ms_ys n0 s))) := by
  refine CI.of (own := RX4) (cc := cX4_years) (nL := 2) (rt := (some .int)) (by decide) rfl rfl (Nat.le_of_ble_eq_true rfl) (fun X hX hQ => ?_)
  show G E X 2 0 [(0, .ref (o 0)), (1, .int (nI n0))] [] [(o 0, moO o ik be so tp fr tq vl wr), (o 1, arI E 122 s), (o 6, arI E 12 ge)]
  refine G.iload_n hX 1 rfl dX4_years_0 ?_
  refine G.i2l hX dX4_years_1 ?_
  refine G.le (y := lN n0) (nI_l (by omega)) ?_
  refine G.lconst hX (v := 1) (by decide) dX4_years_2 ?_
  refine G.ldc2 hX (v := 100) (by decide +kernel) dX4_years_3 ?_
  refine G.s0i hX (As := [.long (lN n0), .long 1, .long 100]) (st := []) (c_X4_inn _ E (v := n0) (lo := 1) (hi := 100) (h1 := by omega) (h2 := by omega) (h3 := by omega)) gX4_years_X4_in cp_X4_in (by decide) rfl rfl (Nat.le_of_ble_eq_true rfl) dX4_years_6 ?_
  refine G.if_ne hX (tgt := 19) (by decide) dX4_years_9 (fun _ => ?_) (fun c9 => absurd c9 (by decide))
  refine G.aload_n hX 0 rfl dX4_years_19 ?_
  refine G.get hX inc_X4_years_4 0 rfl rfl 0 (by decide) (by decide +kernel) rfl dX4_years_20 ?_
  refine G.iconst hX (v := 0) (by decide) dX4_years_23 ?_
  refine G.iald hX (j := 0) 1 rfl (by omega) (by omega) dX4_years_24 ?_
  refine G.iload_n hX 1 rfl dX4_years_25 ?_
  refine G.iadd hX dX4_years_26 ?_
  refine G.sipush hX (v := 9999) (by decide) dX4_years_27 ?_
  refine G.icmp_le hX (tgt := 40) (by decide) dX4_years_30 (fun c30 => ?_) (fun c30 => ?_)
  · refine G.aload_n hX 0 rfl dX4_years_40 ?_
    refine G.iload_n hX 1 rfl dX4_years_41 ?_
    refine G.vv hX (As := [.int (nI n0)]) (st := []) (wr := []) (wf := [(o 0, moO o ik be so tp fr tq vl wr), (o 1, arI E 122 (ms_ys n0 s)), (o 6, arI E 12 (ms_gs n0 s ge))]) (q0 := 0) (ci := 4) rfl rfl (c_X4_yearsGo _ E (n0 := n0) (o := o) (ik := ik) (be := be) (so := so) (tp := tp) (fr := fr) (tq := tq) (vl := vl) (wr := wr) (s := s) (ge := ge) (h1 := by omega)) gX4_years_X4_yearsGo cp_X4_yearsGo (by decide) [0, 1, 2] [] [0, 1, 2] ⟨rfl, rfl, by decide, rfl⟩ rfl rfl (Nat.le_of_ble_eq_true rfl) dX4_years_42 ?_
    refine G.aload_n hX 0 rfl dX4_years_45 ?_
    refine G.vi hX (As := []) (st := []) (wr := [(o 6, arI E 12 (ms_gs n0 s ge))]) (wf := [(o 0, moO o ik be so tp fr tq vl wr), (o 1, arI E 122 (ms_ys n0 s)), (o 6, arI E 12 (ms_gs n0 s ge))]) (q0 := 0) (ci := 4) rfl rfl (c_X4_atHome _ E (o := o) (ik := ik) (be := be) (so := so) (tp := tp) (fr := fr) (tq := tq) (vl := vl) (wr := wr) (s := ms_ys n0 s) ) gX4_years_X4_atHome cp_X4_atHome (by decide) [0, 1] [2] [1, 2, 0] ⟨rfl, rfl, by decide, rfl⟩ rfl rfl (Nat.le_of_ble_eq_true rfl) dX4_years_46 ?_
    exact G.iret hX hQ dX4_years_49 (by rfl) (by rfl)
  · exact absurd h3 c30
set_option maxHeartbeats 4000000 in
set_option maxRecDepth 100000 in
theorem c_X4_yearsst (l : Launch) (E : EV) (n0 : Nat) (o : Nat → Nat) (ik : Int32) (be : Int32) (so : Int32) (tp : Int32) (fr : Int32) (tq : Int32) (vl : Int32) (wr : Int32) (s : Nat → Int32) (stt : Nat → Int32) (h1 : 1 ≤ n0) (h2 : n0 ≤ 100) (h3 : ¬ s 0 + nI n0 ≤ 9999) : CI l yX4_years wsX4_years rmX4_years E [.ref (o 0), .int (nI n0)] [(o 0, moO o ik be so tp fr tq vl wr), (o 1, arI E 122 s), (o 5, arI E 7 stt)] [(o 0, moO o ik be so tp fr tq vl wr), (o 1, arI E 122 s), (o 5, arI E 7 (upd stt 4 (stt 4 + 1)))] ((-1000000005)) := by
  refine CI.of (own := RX4) (cc := cX4_years) (nL := 2) (rt := (some .int)) (by decide) rfl rfl (Nat.le_of_ble_eq_true rfl) (fun X hX hQ => ?_)
  show G E X 2 0 [(0, .ref (o 0)), (1, .int (nI n0))] [] [(o 0, moO o ik be so tp fr tq vl wr), (o 1, arI E 122 s), (o 5, arI E 7 stt)]
  refine G.iload_n hX 1 rfl dX4_years_0 ?_
  refine G.i2l hX dX4_years_1 ?_
  refine G.le (y := lN n0) (nI_l (by omega)) ?_
  refine G.lconst hX (v := 1) (by decide) dX4_years_2 ?_
  refine G.ldc2 hX (v := 100) (by decide +kernel) dX4_years_3 ?_
  refine G.s0i hX (As := [.long (lN n0), .long 1, .long 100]) (st := []) (c_X4_inn _ E (v := n0) (lo := 1) (hi := 100) (h1 := by omega) (h2 := by omega) (h3 := by omega)) gX4_years_X4_in cp_X4_in (by decide) rfl rfl (Nat.le_of_ble_eq_true rfl) dX4_years_6 ?_
  refine G.if_ne hX (tgt := 19) (by decide) dX4_years_9 (fun _ => ?_) (fun c9 => absurd c9 (by decide))
  refine G.aload_n hX 0 rfl dX4_years_19 ?_
  refine G.get hX inc_X4_years_4 0 rfl rfl 0 (by decide) (by decide +kernel) rfl dX4_years_20 ?_
  refine G.iconst hX (v := 0) (by decide) dX4_years_23 ?_
  refine G.iald hX (j := 0) 1 rfl (by omega) (by omega) dX4_years_24 ?_
  refine G.iload_n hX 1 rfl dX4_years_25 ?_
  refine G.iadd hX dX4_years_26 ?_
  refine G.sipush hX (v := 9999) (by decide) dX4_years_27 ?_
  refine G.icmp_le hX (tgt := 40) (by decide) dX4_years_30 (fun c30 => ?_) (fun c30 => ?_)
  · exact absurd c30 h3
  · refine G.aload_n hX 0 rfl dX4_years_33 ?_
    refine G.ldc hX (v := -1000000005) (by decide +kernel) dX4_years_34 ?_
    refine G.vi hX (As := [.int ((-1000000005))]) (st := []) (wr := [(o 1, arI E 122 s)]) (wf := [(o 0, moO o ik be so tp fr tq vl wr), (o 1, arI E 122 s), (o 5, arI E 7 (upd stt 4 (stt 4 + 1)))]) (q0 := 0) (ci := 4) rfl rfl (c_X4_finds4 _ E (o := o) (ik := ik) (be := be) (so := so) (tp := tp) (fr := fr) (tq := tq) (vl := vl) (wr := wr) (stt := stt) ) gX4_years_X4_finds cp_X4_finds (by decide) [0, 2] [1] [1, 0, 2] ⟨rfl, rfl, by decide, rfl⟩ rfl rfl (Nat.le_of_ble_eq_true rfl) dX4_years_36 ?_
    exact G.iret hX hQ dX4_years_39 (by rfl) (by rfl)
abbrev rmX4_gale : Room := { frames := 7, cells := 0, slots := 0, locals := 155 }
theorem cp_X4_gale : CP yX4_gale RX4 wsX4_gale 1 0 rmX4_gale := ⟨⟨_, _, _, rfl⟩, rfl, rfl, by decide +kernel⟩
set_option maxHeartbeats 4000000 in
set_option maxRecDepth 100000 in
theorem c_X4_gale (l : Launch) (E : EV) (o : Nat → Nat) (ik : Int32) (be : Int32) (so : Int32) (tp : Int32) (fr : Int32) (tq : Int32) (vl : Int32) (wr : Int32) (s : Nat → Int32)  : CI l yX4_gale wsX4_gale rmX4_gale E [.ref (o 0)] [(o 0, moO o ik be so tp fr tq vl wr), (o 1, arI E 122 s)] [(o 0, moO o ik be so tp fr tq vl wr), (o 1, arI E 122 ((ms_bl s).1))] (nI ((ms_bl s).2)) := by
  refine CI.of (own := RX4) (cc := cX4_gale) (nL := 1) (rt := (some .int)) (by decide) rfl rfl (Nat.le_of_ble_eq_true rfl) (fun X hX hQ => ?_)
  show G E X 1 0 [(0, .ref (o 0))] [] [(o 0, moO o ik be so tp fr tq vl wr), (o 1, arI E 122 s)]
  refine G.aload_n hX 0 rfl dX4_gale_0 ?_
  refine G.vi hX (As := []) (st := []) (wr := []) (wf := [(o 0, moO o ik be so tp fr tq vl wr), (o 1, arI E 122 ((ms_bl s).1))]) (q0 := 0) (ci := 4) rfl rfl (c_X4_blows _ E (o := o) (ik := ik) (be := be) (so := so) (tp := tp) (fr := fr) (tq := tq) (vl := vl) (wr := wr) (s := s) ) gX4_gale_X4_blows cp_X4_blows (by decide) [0, 1] [] [0, 1] ⟨rfl, rfl, by decide, rfl⟩ rfl rfl (Nat.le_of_ble_eq_true rfl) dX4_gale_1 ?_
  exact G.iret hX hQ dX4_gale_4 (by rfl) (by rfl)
abbrev rmX4_now : Room := { frames := 6, cells := 0, slots := 0, locals := 132 }
theorem cp_X4_now : CP yX4_now RX4 wsX4_now 2 1 rmX4_now := ⟨⟨_, _, _, rfl⟩, rfl, rfl, by decide +kernel⟩
theorem inc_X4_now_4 : ∀ w ∈ u_ws RX4 TX4 19, w ∈ wsX4_now := by decide +kernel
set_option maxHeartbeats 4000000 in
set_option maxRecDepth 100000 in
theorem c_X4_now0 (l : Launch) (E : EV) (o : Nat → Nat) (ik : Int32) (be : Int32) (so : Int32) (tp : Int32) (fr : Int32) (tq : Int32) (vl : Int32) (wr : Int32) (s : Nat → Int32)  : CI l yX4_now wsX4_now rmX4_now E [.ref (o 0), .int 0] [(o 0, moO o ik be so tp fr tq vl wr), (o 1, arI E 122 s)] [(o 0, moO o ik be so tp fr tq vl wr), (o 1, arI E 122 s)] (s 0) := by
  refine CI.of (own := RX4) (cc := cX4_now) (nL := 2) (rt := (some .int)) (by decide) rfl rfl (Nat.le_of_ble_eq_true rfl) (fun X hX hQ => ?_)
  show G E X 2 0 [(0, .ref (o 0)), (1, .int 0)] [] [(o 0, moO o ik be so tp fr tq vl wr), (o 1, arI E 122 s)]
  refine G.iload_n hX 1 rfl dX4_now_0 ?_
  refine G.tin hX (tgt := 40) dX4_now_1 (by decide) (by decide) rfl (by decide) ?_
  refine G.aload_n hX 0 rfl dX4_now_40 ?_
  refine G.get hX inc_X4_now_4 0 rfl rfl 0 (by decide) (by decide +kernel) rfl dX4_now_41 ?_
  refine G.iconst hX (v := 0) (by decide) dX4_now_44 ?_
  refine G.iald hX (j := 0) 1 rfl (by omega) (by omega) dX4_now_45 ?_
  exact G.iret hX hQ dX4_now_46 (by rfl) (by rfl)
set_option maxHeartbeats 4000000 in
set_option maxRecDepth 100000 in
theorem c_X4_now1 (l : Launch) (E : EV) (o : Nat → Nat) (ik : Int32) (be : Int32) (so : Int32) (tp : Int32) (fr : Int32) (tq : Int32) (vl : Int32) (wr : Int32) (s : Nat → Int32)  : CI l yX4_now wsX4_now rmX4_now E [.ref (o 0), .int 1] [(o 0, moO o ik be so tp fr tq vl wr), (o 1, arI E 122 s)] [(o 0, moO o ik be so tp fr tq vl wr), (o 1, arI E 122 s)] (s 1) := by
  refine CI.of (own := RX4) (cc := cX4_now) (nL := 2) (rt := (some .int)) (by decide) rfl rfl (Nat.le_of_ble_eq_true rfl) (fun X hX hQ => ?_)
  show G E X 2 0 [(0, .ref (o 0)), (1, .int 1)] [] [(o 0, moO o ik be so tp fr tq vl wr), (o 1, arI E 122 s)]
  refine G.iload_n hX 1 rfl dX4_now_0 ?_
  refine G.tin hX (tgt := 47) dX4_now_1 (by decide) (by decide) rfl (by decide) ?_
  refine G.aload_n hX 0 rfl dX4_now_47 ?_
  refine G.get hX inc_X4_now_4 0 rfl rfl 0 (by decide) (by decide +kernel) rfl dX4_now_48 ?_
  refine G.iconst hX (v := 1) (by decide) dX4_now_51 ?_
  refine G.iald hX (j := 1) 1 rfl (by omega) (by omega) dX4_now_52 ?_
  exact G.iret hX hQ dX4_now_53 (by rfl) (by rfl)
set_option maxHeartbeats 4000000 in
set_option maxRecDepth 100000 in
theorem c_X4_now2 (l : Launch) (E : EV) (o : Nat → Nat) (ik : Int32) (be : Int32) (so : Int32) (tp : Int32) (fr : Int32) (tq : Int32) (vl : Int32) (wr : Int32) (s : Nat → Int32)  : CI l yX4_now wsX4_now rmX4_now E [.ref (o 0), .int 2] [(o 0, moO o ik be so tp fr tq vl wr), (o 1, arI E 122 s)] [(o 0, moO o ik be so tp fr tq vl wr), (o 1, arI E 122 s)] (nI (ms_home s)) := by
  refine CI.of (own := RX4) (cc := cX4_now) (nL := 2) (rt := (some .int)) (by decide) rfl rfl (Nat.le_of_ble_eq_true rfl) (fun X hX hQ => ?_)
  show G E X 2 0 [(0, .ref (o 0)), (1, .int 2)] [] [(o 0, moO o ik be so tp fr tq vl wr), (o 1, arI E 122 s)]
  refine G.iload_n hX 1 rfl dX4_now_0 ?_
  refine G.tin hX (tgt := 54) dX4_now_1 (by decide) (by decide) rfl (by decide) ?_
  refine G.aload_n hX 0 rfl dX4_now_54 ?_
  refine G.vi hX (As := []) (st := []) (wr := []) (wf := [(o 0, moO o ik be so tp fr tq vl wr), (o 1, arI E 122 s)]) (q0 := 0) (ci := 4) rfl rfl (c_X4_atHome _ E (o := o) (ik := ik) (be := be) (so := so) (tp := tp) (fr := fr) (tq := tq) (vl := vl) (wr := wr) (s := s) ) gX4_now_X4_atHome cp_X4_atHome (by decide) [0, 1] [] [0, 1] ⟨rfl, rfl, by decide, rfl⟩ rfl rfl (Nat.le_of_ble_eq_true rfl) dX4_now_55 ?_
  exact G.iret hX hQ dX4_now_58 (by rfl) (by rfl)
set_option maxHeartbeats 4000000 in
set_option maxRecDepth 100000 in
theorem c_X4_now3 (l : Launch) (E : EV) (o : Nat → Nat) (ik : Int32) (be : Int32) (so : Int32) (tp : Int32) (fr : Int32) (tq : Int32) (vl : Int32) (wr : Int32) (s : Nat → Int32)  : CI l yX4_now wsX4_now rmX4_now E [.ref (o 0), .int 3] [(o 0, moO o ik be so tp fr tq vl wr), (o 1, arI E 122 s)] [(o 0, moO o ik be so tp fr tq vl wr), (o 1, arI E 122 s)] (nI (ms_all s)) := by
  refine CI.of (own := RX4) (cc := cX4_now) (nL := 2) (rt := (some .int)) (by decide) rfl rfl (Nat.le_of_ble_eq_true rfl) (fun X hX hQ => ?_)
  show G E X 2 0 [(0, .ref (o 0)), (1, .int 3)] [] [(o 0, moO o ik be so tp fr tq vl wr), (o 1, arI E 122 s)]
  refine G.iload_n hX 1 rfl dX4_now_0 ?_
  refine G.tin hX (tgt := 59) dX4_now_1 (by decide) (by decide) rfl (by decide) ?_
  refine G.aload_n hX 0 rfl dX4_now_59 ?_
  refine G.vi hX (As := []) (st := []) (wr := []) (wf := [(o 0, moO o ik be so tp fr tq vl wr), (o 1, arI E 122 s)]) (q0 := 0) (ci := 4) rfl rfl (c_X4_knownAtAll _ E (o := o) (ik := ik) (be := be) (so := so) (tp := tp) (fr := fr) (tq := tq) (vl := vl) (wr := wr) (s := s) ) gX4_now_X4_knownAtAll cp_X4_knownAtAll (by decide) [0, 1] [] [0, 1] ⟨rfl, rfl, by decide, rfl⟩ rfl rfl (Nat.le_of_ble_eq_true rfl) dX4_now_60 ?_
  exact G.iret hX hQ dX4_now_63 (by rfl) (by rfl)
set_option maxHeartbeats 4000000 in
set_option maxRecDepth 100000 in
theorem c_X4_now4 (l : Launch) (E : EV) (o : Nat → Nat) (ik : Int32) (be : Int32) (so : Int32) (tp : Int32) (fr : Int32) (tq : Int32) (vl : Int32) (wr : Int32) (s : Nat → Int32)  : CI l yX4_now wsX4_now rmX4_now E [.ref (o 0), .int 4] [(o 0, moO o ik be so tp fr tq vl wr), (o 1, arI E 122 s)] [(o 0, moO o ik be so tp fr tq vl wr), (o 1, arI E 122 s)] (nI (ms_tog s)) := by
  refine CI.of (own := RX4) (cc := cX4_now) (nL := 2) (rt := (some .int)) (by decide) rfl rfl (Nat.le_of_ble_eq_true rfl) (fun X hX hQ => ?_)
  show G E X 2 0 [(0, .ref (o 0)), (1, .int 4)] [] [(o 0, moO o ik be so tp fr tq vl wr), (o 1, arI E 122 s)]
  refine G.iload_n hX 1 rfl dX4_now_0 ?_
  refine G.tin hX (tgt := 64) dX4_now_1 (by decide) (by decide) rfl (by decide) ?_
  refine G.aload_n hX 0 rfl dX4_now_64 ?_
  refine G.vi hX (As := []) (st := []) (wr := []) (wf := [(o 0, moO o ik be so tp fr tq vl wr), (o 1, arI E 122 s)]) (q0 := 0) (ci := 4) rfl rfl (c_X4_knownTogether _ E (o := o) (ik := ik) (be := be) (so := so) (tp := tp) (fr := fr) (tq := tq) (vl := vl) (wr := wr) (s := s) ) gX4_now_X4_knownTogether cp_X4_knownTogether (by decide) [0, 1] [] [0, 1] ⟨rfl, rfl, by decide, rfl⟩ rfl rfl (Nat.le_of_ble_eq_true rfl) dX4_now_65 ?_
  exact G.iret hX hQ dX4_now_68 (by rfl) (by rfl)
set_option maxHeartbeats 4000000 in
set_option maxRecDepth 100000 in
theorem c_X4_now5 (l : Launch) (E : EV) (o : Nat → Nat) (ik : Int32) (be : Int32) (so : Int32) (tp : Int32) (fr : Int32) (tq : Int32) (vl : Int32) (wr : Int32) (s : Nat → Int32)  : CI l yX4_now wsX4_now rmX4_now E [.ref (o 0), .int 5] [(o 0, moO o ik be so tp fr tq vl wr), (o 1, arI E 122 s)] [(o 0, moO o ik be so tp fr tq vl wr), (o 1, arI E 122 s)] (ms_ages s) := by
  refine CI.of (own := RX4) (cc := cX4_now) (nL := 2) (rt := (some .int)) (by decide) rfl rfl (Nat.le_of_ble_eq_true rfl) (fun X hX hQ => ?_)
  show G E X 2 0 [(0, .ref (o 0)), (1, .int 5)] [] [(o 0, moO o ik be so tp fr tq vl wr), (o 1, arI E 122 s)]
  refine G.iload_n hX 1 rfl dX4_now_0 ?_
  refine G.tin hX (tgt := 69) dX4_now_1 (by decide) (by decide) rfl (by decide) ?_
  refine G.aload_n hX 0 rfl dX4_now_69 ?_
  refine G.vi hX (As := []) (st := []) (wr := []) (wf := [(o 0, moO o ik be so tp fr tq vl wr), (o 1, arI E 122 s)]) (q0 := 0) (ci := 4) rfl rfl (c_X4_ages _ E (o := o) (ik := ik) (be := be) (so := so) (tp := tp) (fr := fr) (tq := tq) (vl := vl) (wr := wr) (s := s) ) gX4_now_X4_ages cp_X4_ages (by decide) [0, 1] [] [0, 1] ⟨rfl, rfl, by decide, rfl⟩ rfl rfl (Nat.le_of_ble_eq_true rfl) dX4_now_70 ?_
  exact G.iret hX hQ dX4_now_73 (by rfl) (by rfl)
set_option maxHeartbeats 4000000 in
set_option maxRecDepth 100000 in
theorem c_X4_nowbad (l : Launch) (E : EV) (x : Int32) (o : Nat → Nat) (ik : Int32) (be : Int32) (so : Int32) (tp : Int32) (fr : Int32) (tq : Int32) (vl : Int32) (wr : Int32) (stt : Nat → Int32) (h1 : ¬ x = 0) (h2 : ¬ x = 1) (h3 : ¬ x = 2) (h4 : ¬ x = 3) (h5 : ¬ x = 4) (h6 : ¬ x = 5) : CI l yX4_now wsX4_now rmX4_now E [.ref (o 0), .int x] [(o 0, moO o ik be so tp fr tq vl wr), (o 5, arI E 7 stt)] [(o 0, moO o ik be so tp fr tq vl wr), (o 5, arI E 7 (upd stt 0 (stt 0 + 1)))] ((-1000000001)) := by
  refine CI.of (own := RX4) (cc := cX4_now) (nL := 2) (rt := (some .int)) (by decide) rfl rfl (Nat.le_of_ble_eq_true rfl) (fun X hX hQ => ?_)
  show G E X 2 0 [(0, .ref (o 0)), (1, .int x)] [] [(o 0, moO o ik be so tp fr tq vl wr), (o 5, arI E 7 stt)]
  refine G.iload_n hX 1 rfl dX4_now_0 ?_
  refine G.ie (y := x) rfl ?_
  by_cases c1_0 : x = 0
  · refine G.ie (y := 0) c1_0 ?_
    refine G.tin hX (tgt := 40) dX4_now_1 (by decide) (by decide) rfl (by decide) ?_
    exact absurd c1_0 h1
  by_cases c1_1 : x = 1
  · refine G.ie (y := 1) c1_1 ?_
    refine G.tin hX (tgt := 47) dX4_now_1 (by decide) (by decide) rfl (by decide) ?_
    exact absurd c1_1 h2
  by_cases c1_2 : x = 2
  · refine G.ie (y := 2) c1_2 ?_
    refine G.tin hX (tgt := 54) dX4_now_1 (by decide) (by decide) rfl (by decide) ?_
    exact absurd c1_2 h3
  by_cases c1_3 : x = 3
  · refine G.ie (y := 3) c1_3 ?_
    refine G.tin hX (tgt := 59) dX4_now_1 (by decide) (by decide) rfl (by decide) ?_
    exact absurd c1_3 h4
  by_cases c1_4 : x = 4
  · refine G.ie (y := 4) c1_4 ?_
    refine G.tin hX (tgt := 64) dX4_now_1 (by decide) (by decide) rfl (by decide) ?_
    exact absurd c1_4 h5
  by_cases c1_5 : x = 5
  · refine G.ie (y := 5) c1_5 ?_
    refine G.tin hX (tgt := 69) dX4_now_1 (by decide) (by decide) rfl (by decide) ?_
    exact absurd c1_5 h6
  refine G.tout hX (tgt := 74) dX4_now_1 (by have t0 := ne_toInt c1_0; have t1 := ne_toInt c1_1; have t2 := ne_toInt c1_2; have t3 := ne_toInt c1_3; have t4 := ne_toInt c1_4; have t5 := ne_toInt c1_5; simp at t0 t1 t2 t3 t4 t5; omega) (by decide) ?_
  refine G.aload_n hX 0 rfl dX4_now_74 ?_
  refine G.ldc hX (v := -1000000001) (by decide +kernel) dX4_now_75 ?_
  refine G.vi hX (As := [.int ((-1000000001))]) (st := []) (wr := []) (wf := [(o 0, moO o ik be so tp fr tq vl wr), (o 5, arI E 7 (upd stt 0 (stt 0 + 1)))]) (q0 := 0) (ci := 4) rfl rfl (c_X4_finds0 _ E (o := o) (ik := ik) (be := be) (so := so) (tp := tp) (fr := fr) (tq := tq) (vl := vl) (wr := wr) (stt := stt) ) gX4_now_X4_finds cp_X4_finds (by decide) [0, 1] [] [0, 1] ⟨rfl, rfl, by decide, rfl⟩ rfl rfl (Nat.le_of_ble_eq_true rfl) dX4_now_77 ?_
  exact G.iret hX hQ dX4_now_80 (by rfl) (by rfl)
abbrev rmX4_on : Room := { frames := 8, cells := 0, slots := 0, locals := 179 }
theorem cp_X4_on : CP yX4_on RX4 wsX4_on 3 2 rmX4_on := ⟨⟨_, _, _, rfl⟩, rfl, rfl, by decide +kernel⟩
set_option maxHeartbeats 4000000 in
set_option maxRecDepth 100000 in
theorem c_X4_onbad (l : Launch) (E : EV) (x : Int32) (y : Int32) (o : Nat → Nat) (ik : Int32) (be : Int32) (so : Int32) (tp : Int32) (fr : Int32) (tq : Int32) (vl : Int32) (wr : Int32) (stt : Nat → Int32) (h1 : (inI x 0 11 && inI y 0 200) = false) : CI l yX4_on wsX4_on rmX4_on E [.ref (o 0), .int x, .int y] [(o 0, moO o ik be so tp fr tq vl wr), (o 5, arI E 7 stt)] [(o 0, moO o ik be so tp fr tq vl wr), (o 5, arI E 7 (upd stt 0 (stt 0 + 1)))] ((-1000000001)) := by
  refine CI.of (own := RX4) (cc := cX4_on) (nL := 3) (rt := (some .int)) (by decide) rfl rfl (Nat.le_of_ble_eq_true rfl) (fun X hX hQ => ?_)
  show G E X 3 0 [(0, .ref (o 0)), (1, .int x), (2, .int y)] [] [(o 0, moO o ik be so tp fr tq vl wr), (o 5, arI E 7 stt)]
  refine G.iload_n hX 1 rfl dX4_on_0 ?_
  refine G.s0i hX (As := [.int x]) (st := []) (c_X4_isTree _ E (x := x) ) gX4_on_X4_isTree cp_X4_isTree (by decide) rfl rfl (Nat.le_of_ble_eq_true rfl) dX4_on_1 ?_
  refine G.b_eq hX (tgt := 19) (by decide) dX4_on_4 (fun c4 => ?_) (fun c4 => ?_)
  · refine G.aload_n hX 0 rfl dX4_on_19 ?_
    refine G.ldc hX (v := -1000000001) (by decide +kernel) dX4_on_20 ?_
    refine G.vi hX (As := [.int ((-1000000001))]) (st := []) (wr := []) (wf := [(o 0, moO o ik be so tp fr tq vl wr), (o 5, arI E 7 (upd stt 0 (stt 0 + 1)))]) (q0 := 0) (ci := 4) rfl rfl (c_X4_finds0 _ E (o := o) (ik := ik) (be := be) (so := so) (tp := tp) (fr := fr) (tq := tq) (vl := vl) (wr := wr) (stt := stt) ) gX4_on_X4_finds cp_X4_finds (by decide) [0, 1] [] [0, 1] ⟨rfl, rfl, by decide, rfl⟩ rfl rfl (Nat.le_of_ble_eq_true rfl) dX4_on_22 ?_
    exact G.iret hX hQ dX4_on_25 (by rfl) (by rfl)
  · refine G.iload_n hX 2 rfl dX4_on_7 ?_
    refine G.i2l hX dX4_on_8 ?_
    refine G.lconst hX (v := 0) (by decide) dX4_on_9 ?_
    refine G.ldc2 hX (v := 200) (by decide +kernel) dX4_on_10 ?_
    refine G.s0i hX (As := [.long y.toInt64, .long 0, .long 200]) (st := []) (c_X4_in _ E (v := y.toInt64) (lo := 0) (hi := 200) ) gX4_on_X4_in cp_X4_in (by decide) rfl rfl (Nat.le_of_ble_eq_true rfl) dX4_on_13 ?_
    refine G.ie (y := bI (inI y 0 200)) rfl ?_
    refine G.b_ne hX (tgt := 26) (by decide) dX4_on_16 (fun c16 => ?_) (fun c16 => ?_)
    · exact absurd h1 (by simp [c4, c16])
    · refine G.aload_n hX 0 rfl dX4_on_19 ?_
      refine G.ldc hX (v := -1000000001) (by decide +kernel) dX4_on_20 ?_
      refine G.vi hX (As := [.int ((-1000000001))]) (st := []) (wr := []) (wf := [(o 0, moO o ik be so tp fr tq vl wr), (o 5, arI E 7 (upd stt 0 (stt 0 + 1)))]) (q0 := 0) (ci := 4) rfl rfl (c_X4_finds0 _ E (o := o) (ik := ik) (be := be) (so := so) (tp := tp) (fr := fr) (tq := tq) (vl := vl) (wr := wr) (stt := stt) ) gX4_on_X4_finds cp_X4_finds (by decide) [0, 1] [] [0, 1] ⟨rfl, rfl, by decide, rfl⟩ rfl rfl (Nat.le_of_ble_eq_true rfl) dX4_on_22 ?_
      exact G.iret hX hQ dX4_on_25 (by rfl) (by rfl)
set_option maxHeartbeats 4000000 in
set_option maxRecDepth 100000 in
theorem c_X4_onok (l : Launch) (E : EV) (t : Nat) (n0 : Nat) (o : Nat → Nat) (ik : Int32) (be : Int32) (so : Int32) (tp : Int32) (fr : Int32) (tq : Int32) (vl : Int32) (wr : Int32) (s : Nat → Int32) (asd : Nat → Int32) (ge : Nat → Int32) (h1 : t < 12) (h2 : n0 ≤ 200) : CI l yX4_on wsX4_on rmX4_on E [.ref (o 0), .int (nI t), .int (nI n0)] [(o 0, moO o ik be so tp fr tq vl wr), (o 1, arI E 122 s), (o 4, arI E 122 asd), (o 6, arI E 12 ge)] [(o 0, moO o ik be so tp fr tq vl wr), (o 1, arI E 122 s), (o 4, arI E 122 s), (o 6, arI E 12 (ms_gs n0 s ge))] (nI (ms_kb (ms_ys n0 s) t)) := by
  refine CI.of (own := RX4) (cc := cX4_on) (nL := 3) (rt := (some .int)) (by decide) rfl rfl (Nat.le_of_ble_eq_true rfl) (fun X hX hQ => ?_)
  show G E X 3 0 [(0, .ref (o 0)), (1, .int (nI t)), (2, .int (nI n0))] [] [(o 0, moO o ik be so tp fr tq vl wr), (o 1, arI E 122 s), (o 4, arI E 122 asd), (o 6, arI E 12 ge)]
  refine G.iload_n hX 1 rfl dX4_on_0 ?_
  refine G.s0i hX (As := [.int (nI t)]) (st := []) (c_X4_isTreen _ E (x := t) (h1 := by omega)) gX4_on_X4_isTree cp_X4_isTree (by decide) rfl rfl (Nat.le_of_ble_eq_true rfl) dX4_on_1 ?_
  refine G.if_eq hX (tgt := 19) (by decide) dX4_on_4 (fun c4 => absurd c4 (by decide)) (fun _ => ?_)
  refine G.iload_n hX 2 rfl dX4_on_7 ?_
  refine G.i2l hX dX4_on_8 ?_
  refine G.le (y := lN n0) (nI_l (by omega)) ?_
  refine G.lconst hX (v := 0) (by decide) dX4_on_9 ?_
  refine G.ldc2 hX (v := 200) (by decide +kernel) dX4_on_10 ?_
  refine G.s0i hX (As := [.long (lN n0), .long 0, .long 200]) (st := []) (c_X4_inn _ E (v := n0) (lo := 0) (hi := 200) (h1 := by omega) (h2 := by omega) (h3 := by omega)) gX4_on_X4_in cp_X4_in (by decide) rfl rfl (Nat.le_of_ble_eq_true rfl) dX4_on_13 ?_
  refine G.if_ne hX (tgt := 26) (by decide) dX4_on_16 (fun _ => ?_) (fun c16 => absurd c16 (by decide))
  refine G.aload_n hX 0 rfl dX4_on_26 ?_
  refine G.vv hX (As := []) (st := []) (wr := [(o 6, arI E 12 ge)]) (wf := [(o 0, moO o ik be so tp fr tq vl wr), (o 1, arI E 122 s), (o 4, arI E 122 s), (o 6, arI E 12 ge)]) (q0 := 0) (ci := 4) rfl rfl (c_X4_laysAside _ E (o := o) (ik := ik) (be := be) (so := so) (tp := tp) (fr := fr) (tq := tq) (vl := vl) (wr := wr) (s := s) (asd := asd) ) gX4_on_X4_laysAside cp_X4_laysAside (by decide) [0, 1, 2] [3] [1, 2, 3, 0] ⟨rfl, rfl, by decide, rfl⟩ rfl rfl (Nat.le_of_ble_eq_true rfl) dX4_on_27 ?_
  refine G.aload_n hX 0 rfl dX4_on_30 ?_
  refine G.iload_n hX 2 rfl dX4_on_31 ?_
  refine G.vv hX (As := [.int (nI n0)]) (st := []) (wr := [(o 4, arI E 122 s)]) (wf := [(o 0, moO o ik be so tp fr tq vl wr), (o 1, arI E 122 (ms_ys n0 s)), (o 4, arI E 122 s), (o 6, arI E 12 (ms_gs n0 s ge))]) (q0 := 0) (ci := 4) rfl rfl (c_X4_yearsGo _ E (n0 := n0) (o := o) (ik := ik) (be := be) (so := so) (tp := tp) (fr := fr) (tq := tq) (vl := vl) (wr := wr) (s := s) (ge := ge) (h1 := by omega)) gX4_on_X4_yearsGo cp_X4_yearsGo (by decide) [0, 1, 3] [2] [1, 2, 0, 3] ⟨rfl, rfl, by decide, rfl⟩ rfl rfl (Nat.le_of_ble_eq_true rfl) dX4_on_32 ?_
  refine G.aload_n hX 0 rfl dX4_on_35 ?_
  refine G.aload_n hX 0 rfl dX4_on_36 ?_
  refine G.iload_n hX 1 rfl dX4_on_37 ?_
  refine G.vi hX (As := [.int (nI t)]) (st := [.ref (o 0)]) (wr := [(o 4, arI E 122 s), (o 6, arI E 12 (ms_gs n0 s ge))]) (wf := [(o 0, moO o ik be so tp fr tq vl wr), (o 1, arI E 122 (ms_ys n0 s)), (o 4, arI E 122 s), (o 6, arI E 12 (ms_gs n0 s ge))]) (q0 := 0) (ci := 4) rfl rfl (c_X4_knownBy _ E (t := t) (o := o) (ik := ik) (be := be) (so := so) (tp := tp) (fr := fr) (tq := tq) (vl := vl) (wr := wr) (s := ms_ys n0 s) (h1 := by omega)) gX4_on_X4_knownBy cp_X4_knownBy (by decide) [0, 1] [2, 3] [2, 3, 0, 1] ⟨rfl, rfl, by decide, rfl⟩ rfl rfl (Nat.le_of_ble_eq_true rfl) dX4_on_38 ?_
  refine G.vi hX (As := [.int (nI (ms_kb (ms_ys n0 s) t))]) (st := []) (wr := [(o 6, arI E 12 (ms_gs n0 s ge))]) (wf := [(o 0, moO o ik be so tp fr tq vl wr), (o 1, arI E 122 s), (o 4, arI E 122 s), (o 6, arI E 12 (ms_gs n0 s ge))]) (q0 := 0) (ci := 4) rfl rfl (c_X4_takesBack _ E (v := nI (ms_kb (ms_ys n0 s) t)) (o := o) (ik := ik) (be := be) (so := so) (tp := tp) (fr := fr) (tq := tq) (vl := vl) (wr := wr) (s := ms_ys n0 s) (asd := s) ) gX4_on_X4_takesBack cp_X4_takesBack (by decide) [0, 1, 2] [3] [1, 2, 3, 0] ⟨rfl, rfl, by decide, rfl⟩ rfl rfl (Nat.le_of_ble_eq_true rfl) dX4_on_41 ?_
  exact G.iret hX hQ dX4_on_44 (by first | rfl | (simp only [↓reduceIte, Bool.not_true, Bool.not_false, Bool.and_true, Bool.true_and, Bool.and_false, Bool.false_and, Bool.or_true, Bool.true_or, Bool.or_false, Bool.false_or, decide_true, decide_false, not_true_eq_false, not_false_eq_true, Bool.false_eq_true, Bool.true_eq_false]; done) | (simp only [↓reduceIte, Bool.not_true, Bool.not_false, Bool.and_true, Bool.true_and, Bool.and_false, Bool.false_and, Bool.or_true, Bool.true_or, Bool.or_false, Bool.false_or, decide_true, decide_false, not_true_eq_false, not_false_eq_true, Bool.false_eq_true, Bool.true_eq_false]; rfl) | (simp []; done)) (by rfl)
abbrev rmX4_knownIn : Room := { frames := 7, cells := 0, slots := 0, locals := 157 }
theorem cp_X4_knownIn : CP yX4_knownIn RX4 wsX4_knownIn 4 2 rmX4_knownIn := ⟨⟨_, _, _, rfl⟩, rfl, rfl, by decide +kernel⟩
set_option maxHeartbeats 4000000 in
set_option maxRecDepth 100000 in
theorem c_X4_knownInh (l : Launch) (E : EV) (m : Nat) (o : Nat → Nat) (ik : Int32) (be : Int32) (so : Int32) (tp : Int32) (fr : Int32) (tq : Int32) (vl : Int32) (wr : Int32) (s : Nat → Int32) (asd : Nat → Int32) (ge : Nat → Int32) (h1 : m < 8) : CI l yX4_knownIn wsX4_knownIn rmX4_knownIn E [.ref (o 0), .int ((-1)), .int (nI m)] [(o 0, moO o ik be so tp fr tq vl wr), (o 1, arI E 122 s), (o 4, arI E 122 asd), (o 6, arI E 12 ge)] [(o 0, moO o ik be so tp fr tq vl wr), (o 1, arI E 122 s), (o 4, arI E 122 s), (o 6, arI E 12 (ms_gs (ms_kh s m) s ge))] (nI (ms_kh s m)) := by
  refine CI.of (own := RX4) (cc := cX4_knownIn) (nL := 4) (rt := (some .int)) (by decide) rfl rfl (Nat.le_of_ble_eq_true rfl) (fun X hX hQ => ?_)
  show G E X 4 0 [(0, .ref (o 0)), (1, .int ((-1))), (2, .int (nI m))] [] [(o 0, moO o ik be so tp fr tq vl wr), (o 1, arI E 122 s), (o 4, arI E 122 asd), (o 6, arI E 12 ge)]
  refine G.aload_n hX 0 rfl dX4_knownIn_0 ?_
  refine G.vv hX (As := []) (st := []) (wr := [(o 6, arI E 12 ge)]) (wf := [(o 0, moO o ik be so tp fr tq vl wr), (o 1, arI E 122 s), (o 4, arI E 122 s), (o 6, arI E 12 ge)]) (q0 := 0) (ci := 4) rfl rfl (c_X4_laysAside _ E (o := o) (ik := ik) (be := be) (so := so) (tp := tp) (fr := fr) (tq := tq) (vl := vl) (wr := wr) (s := s) (asd := asd) ) gX4_knownIn_X4_laysAside cp_X4_laysAside (by decide) [0, 1, 2] [3] [1, 2, 3, 0] ⟨rfl, rfl, by decide, rfl⟩ rfl rfl (Nat.le_of_ble_eq_true rfl) dX4_knownIn_1 ?_
  refine G.iconst hX (v := 0) (by decide) dX4_knownIn_4 ?_
  refine G.istore_n hX (lv' := [(3, .int 0), (0, .ref (o 0)), (1, .int ((-1))), (2, .int (nI m))]) rfl (by decide) rfl dX4_knownIn_5 ?_
  have L6 : ∀ (n : Nat) (j : Nat), j ≤ 201 → ms_kh s m = ff (ms_hmP s m) (201 - j) j → 202 ≤ j + n → G E X 4 6 [(0, .ref (o 0)), (1, .int ((-1))), (2, .int (nI m)), (3, .int (nI j))] [] [(o 0, moO o ik be so tp fr tq vl wr), (o 1, arI E 122 (ms_ys j s)), (o 4, arI E 122 s), (o 6, arI E 12 (ms_gs j s ge))] := by
    intro n
    induction n with
    | zero => intro j hl6_0 hl6_1 hl6_2; exact absurd hl6_2 (by omega)
    | succ n ih6 =>
      intro j hl6_0 hl6_1 hl6_2
      have J59 : G E X 4 59 [(0, .ref (o 0)), (3, .int (nI (ms_kh s m)))] [] [(o 0, moO o ik be so tp fr tq vl wr), (o 1, arI E 122 (ms_ys j s)), (o 4, arI E 122 s), (o 6, arI E 12 (ms_gs (ms_kh s m) s ge))] := by
        refine G.aload_n hX 0 rfl dX4_knownIn_59 ?_
        refine G.iload_n hX 1 rfl dX4_knownIn_60 ?_
        refine G.vi hX (As := [.int (nI (ms_kh s m))]) (st := []) (wr := [(o 6, arI E 12 (ms_gs (ms_kh s m) s ge))]) (wf := [(o 0, moO o ik be so tp fr tq vl wr), (o 1, arI E 122 s), (o 4, arI E 122 s), (o 6, arI E 12 (ms_gs (ms_kh s m) s ge))]) (q0 := 0) (ci := 4) rfl rfl (c_X4_takesBack _ E (v := nI (ms_kh s m)) (o := o) (ik := ik) (be := be) (so := so) (tp := tp) (fr := fr) (tq := tq) (vl := vl) (wr := wr) (s := ms_ys j s) (asd := s) ) gX4_knownIn_X4_takesBack cp_X4_takesBack (by decide) [0, 1, 2] [3] [1, 2, 3, 0] ⟨rfl, rfl, by decide, rfl⟩ rfl rfl (Nat.le_of_ble_eq_true rfl) dX4_knownIn_61 ?_
        exact G.iret hX hQ dX4_knownIn_64 (by rfl) (by rfl)
      refine G.iload_n hX 3 rfl dX4_knownIn_6 ?_
      refine G.sipush hX (v := 200) (by decide) dX4_knownIn_7 ?_
      refine G.n_gt hX (a := j) (b := 200) (tgt := 59) (by omega) (by omega) (by decide) dX4_knownIn_10 (fun c10 => ?_) (fun c10 => ?_)
      · refine G.lvp (lv' := [(0, .ref (o 0)), (3, .int (nI j))]) [0, 3] rfl ?_
        refine G.lve (lv' := [(0, .ref (o 0)), (3, .int (nI (ms_kh s m)))]) (by have ej : ms_kh s m = j := (by first | (rw [hl6_1]; exact ff_t (by omega) (by simp [ms_hmP, ms_ktP, ms_hm, c10])) | (obtain rfl : j = 201 := (by omega); rw [hl6_1]; rfl)); rw [ej]) ?_
        refine G.we (ws' := [(o 0, moO o ik be so tp fr tq vl wr), (o 1, arI E 122 (ms_ys j s)), (o 4, arI E 122 s), (o 6, arI E 12 (ms_gs (ms_kh s m) s ge))]) (by have ej : ms_kh s m = j := (by first | (rw [hl6_1]; exact ff_t (by omega) (by simp [ms_hmP, ms_ktP, ms_hm, c10])) | (obtain rfl : j = 201 := (by omega); rw [hl6_1]; rfl)); rw [ej]) ?_
        exact J59
      · refine G.iload_n hX 1 rfl dX4_knownIn_13 ?_
        refine G.if_ge hX (tgt := 40) (by decide) dX4_knownIn_14 (fun c14 => absurd c14 (by decide)) (fun _ => ?_)
        refine G.aload_n hX 0 rfl dX4_knownIn_17 ?_
        refine G.bipush hX (v := 10) (by decide) dX4_knownIn_18 ?_
        refine G.iload_n hX 2 rfl dX4_knownIn_20 ?_
        refine G.vi hX (As := [.int 10, .int (nI m)]) (st := []) (wr := [(o 4, arI E 122 s), (o 6, arI E 12 (ms_gs j s ge))]) (wf := [(o 0, moO o ik be so tp fr tq vl wr), (o 1, arI E 122 (ms_ys j s)), (o 4, arI E 122 s), (o 6, arI E 12 (ms_gs j s ge))]) (q0 := 0) (ci := 4) rfl rfl (c_X4_isKnown _ E (t := 10) (m := m) (o := o) (ik := ik) (be := be) (so := so) (tp := tp) (fr := fr) (tq := tq) (vl := vl) (wr := wr) (s := ms_ys j s) (h1 := by omega) (h2 := by omega)) gX4_knownIn_X4_isKnown cp_X4_isKnown (by decide) [0, 1] [2, 3] [2, 3, 0, 1] ⟨rfl, rfl, by decide, rfl⟩ rfl rfl (Nat.le_of_ble_eq_true rfl) dX4_knownIn_21 ?_
        refine G.b_ne hX (tgt := 59) (by decide) dX4_knownIn_24 (fun c24 => ?_) (fun c24 => ?_)
        · refine G.lvp (lv' := [(0, .ref (o 0)), (3, .int (nI j))]) [0, 3] rfl ?_
          refine G.lve (lv' := [(0, .ref (o 0)), (3, .int (nI (ms_kh s m)))]) (by have ej : ms_kh s m = j := (by first | (rw [hl6_1]; exact ff_t (by omega) (by simp [ms_hmP, ms_ktP, ms_hm, c10, c24])) | (obtain rfl : j = 201 := (by omega); rw [hl6_1]; rfl)); rw [ej]) ?_
          refine G.we (ws' := [(o 0, moO o ik be so tp fr tq vl wr), (o 1, arI E 122 (ms_ys j s)), (o 4, arI E 122 s), (o 6, arI E 12 (ms_gs (ms_kh s m) s ge))]) (by have ej : ms_kh s m = j := (by first | (rw [hl6_1]; exact ff_t (by omega) (by simp [ms_hmP, ms_ktP, ms_hm, c10, c24])) | (obtain rfl : j = 201 := (by omega); rw [hl6_1]; rfl)); rw [ej]) ?_
          exact J59
        · refine G.aload_n hX 0 rfl dX4_knownIn_27 ?_
          refine G.bipush hX (v := 11) (by decide) dX4_knownIn_28 ?_
          refine G.iload_n hX 2 rfl dX4_knownIn_30 ?_
          refine G.vi hX (As := [.int 11, .int (nI m)]) (st := []) (wr := [(o 4, arI E 122 s), (o 6, arI E 12 (ms_gs j s ge))]) (wf := [(o 0, moO o ik be so tp fr tq vl wr), (o 1, arI E 122 (ms_ys j s)), (o 4, arI E 122 s), (o 6, arI E 12 (ms_gs j s ge))]) (q0 := 0) (ci := 4) rfl rfl (c_X4_isKnown _ E (t := 11) (m := m) (o := o) (ik := ik) (be := be) (so := so) (tp := tp) (fr := fr) (tq := tq) (vl := vl) (wr := wr) (s := ms_ys j s) (h1 := by omega) (h2 := by omega)) gX4_knownIn_X4_isKnown cp_X4_isKnown (by decide) [0, 1] [2, 3] [2, 3, 0, 1] ⟨rfl, rfl, by decide, rfl⟩ rfl rfl (Nat.le_of_ble_eq_true rfl) dX4_knownIn_31 ?_
          refine G.b_eq hX (tgt := 49) (by decide) dX4_knownIn_34 (fun c34 => ?_) (fun c34 => ?_)
          · refine G.aload_n hX 0 rfl dX4_knownIn_49 ?_
            refine G.vv hX (As := []) (st := []) (wr := [(o 4, arI E 122 s)]) (wf := [(o 0, moO o ik be so tp fr tq vl wr), (o 1, arI E 122 (ms_year (ms_ys j s))), (o 4, arI E 122 s), (o 6, arI E 12 (ms_gets (ms_ys j s)))]) (q0 := 0) (ci := 4) rfl rfl (c_X4_year _ E (o := o) (ik := ik) (be := be) (so := so) (tp := tp) (fr := fr) (tq := tq) (vl := vl) (wr := wr) (s := ms_ys j s) (ge := ms_gs j s ge) ) gX4_knownIn_X4_year cp_X4_year (by decide) [0, 1, 3] [2] [1, 2, 0, 3] ⟨rfl, rfl, by decide, rfl⟩ rfl rfl (Nat.le_of_ble_eq_true rfl) dX4_knownIn_50 ?_
            refine G.iinc hX (n := 1) (lv' := [(3, .int (nI (j + 1))), (0, .ref (o 0)), (1, .int ((-1))), (2, .int (nI m))]) 3 rfl (inc_nI j 1 rfl) (by decide) rfl dX4_knownIn_53 ?_
            refine G.goto hX (tgt := 6) (by decide) dX4_knownIn_56 ?_
            refine G.lvp (lv' := [(0, .ref (o 0)), (1, .int ((-1))), (2, .int (nI m)), (3, .int (nI (j + 1)))]) [1, 2, 3, 0] rfl ?_
            refine G.lve (lv' := [(0, .ref (o 0)), (1, .int ((-1))), (2, .int (nI m)), (3, .int (nI ((j + 1))))]) (by rfl) ?_
            refine G.we (ws' := [(o 0, moO o ik be so tp fr tq vl wr), (o 1, arI E 122 (ms_ys (j + 1) s)), (o 4, arI E 122 s), (o 6, arI E 12 (ms_gs (j + 1) s ge))]) (by rfl) ?_
            exact ih6 (j + 1) (by omega) (by rw [hl6_1]; exact ff_f (by omega) (by simp [ms_hmP, ms_ktP, ms_hm, c10, c24, c34])) (by omega)
          · refine G.goto hX (tgt := 59) (by decide) dX4_knownIn_37 ?_
            refine G.lvp (lv' := [(0, .ref (o 0)), (3, .int (nI j))]) [0, 3] rfl ?_
            refine G.lve (lv' := [(0, .ref (o 0)), (3, .int (nI (ms_kh s m)))]) (by have ej : ms_kh s m = j := (by first | (rw [hl6_1]; exact ff_t (by omega) (by simp [ms_hmP, ms_ktP, ms_hm, c10, c24, c34])) | (obtain rfl : j = 201 := (by omega); rw [hl6_1]; rfl)); rw [ej]) ?_
            refine G.we (ws' := [(o 0, moO o ik be so tp fr tq vl wr), (o 1, arI E 122 (ms_ys j s)), (o 4, arI E 122 s), (o 6, arI E 12 (ms_gs (ms_kh s m) s ge))]) (by have ej : ms_kh s m = j := (by first | (rw [hl6_1]; exact ff_t (by omega) (by simp [ms_hmP, ms_ktP, ms_hm, c10, c24, c34])) | (obtain rfl : j = 201 := (by omega); rw [hl6_1]; rfl)); rw [ej]) ?_
            exact J59
  refine G.lvp (lv' := [(0, .ref (o 0)), (1, .int ((-1))), (2, .int (nI m)), (3, .int 0)]) [1, 2, 3, 0] rfl ?_
  refine G.lve (lv' := [(0, .ref (o 0)), (1, .int ((-1))), (2, .int (nI m)), (3, .int (nI 0))]) (by rfl) ?_
  refine G.we (ws' := [(o 0, moO o ik be so tp fr tq vl wr), (o 1, arI E 122 (ms_ys 0 s)), (o 4, arI E 122 s), (o 6, arI E 12 (ms_gs 0 s ge))]) (by rfl) ?_
  exact L6 202 0 (by omega) rfl (by omega)
set_option maxHeartbeats 4000000 in
set_option maxRecDepth 100000 in
theorem c_X4_knownInt (l : Launch) (E : EV) (t : Nat) (m : Nat) (o : Nat → Nat) (ik : Int32) (be : Int32) (so : Int32) (tp : Int32) (fr : Int32) (tq : Int32) (vl : Int32) (wr : Int32) (s : Nat → Int32) (asd : Nat → Int32) (ge : Nat → Int32) (h1 : t < 12) (h2 : m < 8) : CI l yX4_knownIn wsX4_knownIn rmX4_knownIn E [.ref (o 0), .int (nI t), .int (nI m)] [(o 0, moO o ik be so tp fr tq vl wr), (o 1, arI E 122 s), (o 4, arI E 122 asd), (o 6, arI E 12 ge)] [(o 0, moO o ik be so tp fr tq vl wr), (o 1, arI E 122 s), (o 4, arI E 122 s), (o 6, arI E 12 (ms_gs (ms_kt s t m) s ge))] (nI (ms_kt s t m)) := by
  refine CI.of (own := RX4) (cc := cX4_knownIn) (nL := 4) (rt := (some .int)) (by decide) rfl rfl (Nat.le_of_ble_eq_true rfl) (fun X hX hQ => ?_)
  show G E X 4 0 [(0, .ref (o 0)), (1, .int (nI t)), (2, .int (nI m))] [] [(o 0, moO o ik be so tp fr tq vl wr), (o 1, arI E 122 s), (o 4, arI E 122 asd), (o 6, arI E 12 ge)]
  refine G.aload_n hX 0 rfl dX4_knownIn_0 ?_
  refine G.vv hX (As := []) (st := []) (wr := [(o 6, arI E 12 ge)]) (wf := [(o 0, moO o ik be so tp fr tq vl wr), (o 1, arI E 122 s), (o 4, arI E 122 s), (o 6, arI E 12 ge)]) (q0 := 0) (ci := 4) rfl rfl (c_X4_laysAside _ E (o := o) (ik := ik) (be := be) (so := so) (tp := tp) (fr := fr) (tq := tq) (vl := vl) (wr := wr) (s := s) (asd := asd) ) gX4_knownIn_X4_laysAside cp_X4_laysAside (by decide) [0, 1, 2] [3] [1, 2, 3, 0] ⟨rfl, rfl, by decide, rfl⟩ rfl rfl (Nat.le_of_ble_eq_true rfl) dX4_knownIn_1 ?_
  refine G.iconst hX (v := 0) (by decide) dX4_knownIn_4 ?_
  refine G.istore_n hX (lv' := [(3, .int 0), (0, .ref (o 0)), (1, .int (nI t)), (2, .int (nI m))]) rfl (by decide) rfl dX4_knownIn_5 ?_
  have L6 : ∀ (n : Nat) (j : Nat), j ≤ 201 → ms_kt s t m = ff (ms_ktP s t m) (201 - j) j → 202 ≤ j + n → G E X 4 6 [(0, .ref (o 0)), (1, .int (nI t)), (2, .int (nI m)), (3, .int (nI j))] [] [(o 0, moO o ik be so tp fr tq vl wr), (o 1, arI E 122 (ms_ys j s)), (o 4, arI E 122 s), (o 6, arI E 12 (ms_gs j s ge))] := by
    intro n
    induction n with
    | zero => intro j hl6_0 hl6_1 hl6_2; exact absurd hl6_2 (by omega)
    | succ n ih6 =>
      intro j hl6_0 hl6_1 hl6_2
      have J59 : G E X 4 59 [(0, .ref (o 0)), (3, .int (nI (ms_kt s t m)))] [] [(o 0, moO o ik be so tp fr tq vl wr), (o 1, arI E 122 (ms_ys j s)), (o 4, arI E 122 s), (o 6, arI E 12 (ms_gs (ms_kt s t m) s ge))] := by
        refine G.aload_n hX 0 rfl dX4_knownIn_59 ?_
        refine G.iload_n hX 1 rfl dX4_knownIn_60 ?_
        refine G.vi hX (As := [.int (nI (ms_kt s t m))]) (st := []) (wr := [(o 6, arI E 12 (ms_gs (ms_kt s t m) s ge))]) (wf := [(o 0, moO o ik be so tp fr tq vl wr), (o 1, arI E 122 s), (o 4, arI E 122 s), (o 6, arI E 12 (ms_gs (ms_kt s t m) s ge))]) (q0 := 0) (ci := 4) rfl rfl (c_X4_takesBack _ E (v := nI (ms_kt s t m)) (o := o) (ik := ik) (be := be) (so := so) (tp := tp) (fr := fr) (tq := tq) (vl := vl) (wr := wr) (s := ms_ys j s) (asd := s) ) gX4_knownIn_X4_takesBack cp_X4_takesBack (by decide) [0, 1, 2] [3] [1, 2, 3, 0] ⟨rfl, rfl, by decide, rfl⟩ rfl rfl (Nat.le_of_ble_eq_true rfl) dX4_knownIn_61 ?_
        exact G.iret hX hQ dX4_knownIn_64 (by rfl) (by rfl)
      refine G.iload_n hX 3 rfl dX4_knownIn_6 ?_
      refine G.sipush hX (v := 200) (by decide) dX4_knownIn_7 ?_
      refine G.n_gt hX (a := j) (b := 200) (tgt := 59) (by omega) (by omega) (by decide) dX4_knownIn_10 (fun c10 => ?_) (fun c10 => ?_)
      · refine G.lvp (lv' := [(0, .ref (o 0)), (3, .int (nI j))]) [0, 3] rfl ?_
        refine G.lve (lv' := [(0, .ref (o 0)), (3, .int (nI (ms_kt s t m)))]) (by have ej : ms_kt s t m = j := (by first | (rw [hl6_1]; exact ff_t (by omega) (by simp [ms_hmP, ms_ktP, ms_hm, c10])) | (obtain rfl : j = 201 := (by omega); rw [hl6_1]; rfl)); rw [ej]) ?_
        refine G.we (ws' := [(o 0, moO o ik be so tp fr tq vl wr), (o 1, arI E 122 (ms_ys j s)), (o 4, arI E 122 s), (o 6, arI E 12 (ms_gs (ms_kt s t m) s ge))]) (by have ej : ms_kt s t m = j := (by first | (rw [hl6_1]; exact ff_t (by omega) (by simp [ms_hmP, ms_ktP, ms_hm, c10])) | (obtain rfl : j = 201 := (by omega); rw [hl6_1]; rfl)); rw [ej]) ?_
        exact J59
      · refine G.iload_n hX 1 rfl dX4_knownIn_13 ?_
        refine G.if_ge hX (tgt := 40) (by decide) dX4_knownIn_14 (fun _ => ?_) (fun c14 => absurd (nI_pos' (by omega)) c14)
        refine G.aload_n hX 0 rfl dX4_knownIn_40 ?_
        refine G.iload_n hX 1 rfl dX4_knownIn_41 ?_
        refine G.iload_n hX 2 rfl dX4_knownIn_42 ?_
        refine G.vi hX (As := [.int (nI t), .int (nI m)]) (st := []) (wr := [(o 4, arI E 122 s), (o 6, arI E 12 (ms_gs j s ge))]) (wf := [(o 0, moO o ik be so tp fr tq vl wr), (o 1, arI E 122 (ms_ys j s)), (o 4, arI E 122 s), (o 6, arI E 12 (ms_gs j s ge))]) (q0 := 0) (ci := 4) rfl rfl (c_X4_isKnown _ E (t := t) (m := m) (o := o) (ik := ik) (be := be) (so := so) (tp := tp) (fr := fr) (tq := tq) (vl := vl) (wr := wr) (s := ms_ys j s) (h1 := by omega) (h2 := by omega)) gX4_knownIn_X4_isKnown cp_X4_isKnown (by decide) [0, 1] [2, 3] [2, 3, 0, 1] ⟨rfl, rfl, by decide, rfl⟩ rfl rfl (Nat.le_of_ble_eq_true rfl) dX4_knownIn_43 ?_
        refine G.b_ne hX (tgt := 59) (by decide) dX4_knownIn_46 (fun c46 => ?_) (fun c46 => ?_)
        · refine G.lvp (lv' := [(0, .ref (o 0)), (3, .int (nI j))]) [0, 3] rfl ?_
          refine G.lve (lv' := [(0, .ref (o 0)), (3, .int (nI (ms_kt s t m)))]) (by have ej : ms_kt s t m = j := (by first | (rw [hl6_1]; exact ff_t (by omega) (by simp [ms_hmP, ms_ktP, ms_hm, c10, c46])) | (obtain rfl : j = 201 := (by omega); rw [hl6_1]; rfl)); rw [ej]) ?_
          refine G.we (ws' := [(o 0, moO o ik be so tp fr tq vl wr), (o 1, arI E 122 (ms_ys j s)), (o 4, arI E 122 s), (o 6, arI E 12 (ms_gs (ms_kt s t m) s ge))]) (by have ej : ms_kt s t m = j := (by first | (rw [hl6_1]; exact ff_t (by omega) (by simp [ms_hmP, ms_ktP, ms_hm, c10, c46])) | (obtain rfl : j = 201 := (by omega); rw [hl6_1]; rfl)); rw [ej]) ?_
          exact J59
        · refine G.aload_n hX 0 rfl dX4_knownIn_49 ?_
          refine G.vv hX (As := []) (st := []) (wr := [(o 4, arI E 122 s)]) (wf := [(o 0, moO o ik be so tp fr tq vl wr), (o 1, arI E 122 (ms_year (ms_ys j s))), (o 4, arI E 122 s), (o 6, arI E 12 (ms_gets (ms_ys j s)))]) (q0 := 0) (ci := 4) rfl rfl (c_X4_year _ E (o := o) (ik := ik) (be := be) (so := so) (tp := tp) (fr := fr) (tq := tq) (vl := vl) (wr := wr) (s := ms_ys j s) (ge := ms_gs j s ge) ) gX4_knownIn_X4_year cp_X4_year (by decide) [0, 1, 3] [2] [1, 2, 0, 3] ⟨rfl, rfl, by decide, rfl⟩ rfl rfl (Nat.le_of_ble_eq_true rfl) dX4_knownIn_50 ?_
          refine G.iinc hX (n := 1) (lv' := [(3, .int (nI (j + 1))), (0, .ref (o 0)), (1, .int (nI t)), (2, .int (nI m))]) 3 rfl (inc_nI j 1 rfl) (by decide) rfl dX4_knownIn_53 ?_
          refine G.goto hX (tgt := 6) (by decide) dX4_knownIn_56 ?_
          refine G.lvp (lv' := [(0, .ref (o 0)), (1, .int (nI t)), (2, .int (nI m)), (3, .int (nI (j + 1)))]) [1, 2, 3, 0] rfl ?_
          refine G.lve (lv' := [(0, .ref (o 0)), (1, .int (nI t)), (2, .int (nI m)), (3, .int (nI ((j + 1))))]) (by rfl) ?_
          refine G.we (ws' := [(o 0, moO o ik be so tp fr tq vl wr), (o 1, arI E 122 (ms_ys (j + 1) s)), (o 4, arI E 122 s), (o 6, arI E 12 (ms_gs (j + 1) s ge))]) (by rfl) ?_
          exact ih6 (j + 1) (by omega) (by rw [hl6_1]; exact ff_f (by omega) (by simp [ms_hmP, ms_ktP, ms_hm, c10, c46])) (by omega)
  refine G.lvp (lv' := [(0, .ref (o 0)), (1, .int (nI t)), (2, .int (nI m)), (3, .int 0)]) [1, 2, 3, 0] rfl ?_
  refine G.lve (lv' := [(0, .ref (o 0)), (1, .int (nI t)), (2, .int (nI m)), (3, .int (nI 0))]) (by rfl) ?_
  refine G.we (ws' := [(o 0, moO o ik be so tp fr tq vl wr), (o 1, arI E 122 (ms_ys 0 s)), (o 4, arI E 122 s), (o 6, arI E 12 (ms_gs 0 s ge))]) (by rfl) ?_
  exact L6 202 0 (by omega) rfl (by omega)
abbrev rmX4_orNone : Room := { frames := 1, cells := 0, slots := 0, locals := 21 }
theorem cp_X4_orNone : CP yX4_orNone RX4 wsX4_orNone 2 1 rmX4_orNone := ⟨⟨_, _, _, rfl⟩, rfl, rfl, by decide +kernel⟩
set_option maxHeartbeats 4000000 in
set_option maxRecDepth 100000 in
theorem c_X4_orNoneok (l : Launch) (E : EV) (n0 : Nat) (o : Nat → Nat) (ik : Int32) (be : Int32) (so : Int32) (tp : Int32) (fr : Int32) (tq : Int32) (vl : Int32) (wr : Int32) (stt : Nat → Int32) (h1 : n0 ≤ 200) : CI l yX4_orNone wsX4_orNone rmX4_orNone E [.ref (o 0), .int (nI n0)] [(o 0, moO o ik be so tp fr tq vl wr), (o 5, arI E 7 stt)] [(o 0, moO o ik be so tp fr tq vl wr), (o 5, arI E 7 stt)] (nI n0) := by
  refine CI.of (own := RX4) (cc := cX4_orNone) (nL := 2) (rt := (some .int)) (by decide) rfl rfl (Nat.le_of_ble_eq_true rfl) (fun X hX hQ => ?_)
  show G E X 2 0 [(0, .ref (o 0)), (1, .int (nI n0))] [] [(o 0, moO o ik be so tp fr tq vl wr), (o 5, arI E 7 stt)]
  refine G.iload_n hX 1 rfl dX4_orNone_0 ?_
  refine G.sipush hX (v := 200) (by decide) dX4_orNone_1 ?_
  refine G.n_le hX (a := n0) (b := 200) (tgt := 16) (by omega) (by omega) (by decide) dX4_orNone_4 (fun c4 => ?_) (fun c4 => ?_)
  · refine G.iload_n hX 1 rfl dX4_orNone_16 ?_
    exact G.iret hX hQ dX4_orNone_17 (by rfl) (by rfl)
  · exact absurd h1 (by omega)
set_option maxHeartbeats 4000000 in
set_option maxRecDepth 100000 in
theorem c_X4_orNoneno (l : Launch) (E : EV) (n0 : Nat) (o : Nat → Nat) (ik : Int32) (be : Int32) (so : Int32) (tp : Int32) (fr : Int32) (tq : Int32) (vl : Int32) (wr : Int32) (stt : Nat → Int32) (h1 : 200 < n0) (h2 : n0 < 1000) : CI l yX4_orNone wsX4_orNone rmX4_orNone E [.ref (o 0), .int (nI n0)] [(o 0, moO o ik be so tp fr tq vl wr), (o 5, arI E 7 stt)] [(o 0, moO o ik be so tp fr tq vl wr), (o 5, arI E 7 (upd stt 3 (stt 3 + 1)))] ((-1000000004)) := by
  refine CI.of (own := RX4) (cc := cX4_orNone) (nL := 2) (rt := (some .int)) (by decide) rfl rfl (Nat.le_of_ble_eq_true rfl) (fun X hX hQ => ?_)
  show G E X 2 0 [(0, .ref (o 0)), (1, .int (nI n0))] [] [(o 0, moO o ik be so tp fr tq vl wr), (o 5, arI E 7 stt)]
  refine G.iload_n hX 1 rfl dX4_orNone_0 ?_
  refine G.sipush hX (v := 200) (by decide) dX4_orNone_1 ?_
  refine G.n_le hX (a := n0) (b := 200) (tgt := 16) (by omega) (by omega) (by decide) dX4_orNone_4 (fun c4 => ?_) (fun c4 => ?_)
  · exact absurd h1 (by omega)
  · refine G.aload_n hX 0 rfl dX4_orNone_7 ?_
    refine G.ldc hX (v := -1000000004) (by decide +kernel) dX4_orNone_8 ?_
    refine G.vi hX (As := [.int ((-1000000004))]) (st := []) (wr := []) (wf := [(o 0, moO o ik be so tp fr tq vl wr), (o 5, arI E 7 (upd stt 3 (stt 3 + 1)))]) (q0 := 0) (ci := 4) rfl rfl (c_X4_finds3 _ E (o := o) (ik := ik) (be := be) (so := so) (tp := tp) (fr := fr) (tq := tq) (vl := vl) (wr := wr) (stt := stt) ) gX4_orNone_X4_finds cp_X4_finds (by decide) [0, 1] [] [0, 1] ⟨rfl, rfl, by decide, rfl⟩ rfl rfl (Nat.le_of_ble_eq_true rfl) dX4_orNone_10 ?_
    refine G.goto hX (tgt := 17) (by decide) dX4_orNone_13 ?_
    exact G.iret hX hQ dX4_orNone_17 (by rfl) (by rfl)
abbrev rmX4_when : Room := { frames := 8, cells := 0, slots := 0, locals := 180 }
theorem cp_X4_when : CP yX4_when RX4 wsX4_when 3 2 rmX4_when := ⟨⟨_, _, _, rfl⟩, rfl, rfl, by decide +kernel⟩
set_option maxHeartbeats 4000000 in
set_option maxRecDepth 100000 in
theorem c_X4_whenbad (l : Launch) (E : EV) (x : Int32) (y : Int32) (o : Nat → Nat) (ik : Int32) (be : Int32) (so : Int32) (tp : Int32) (fr : Int32) (tq : Int32) (vl : Int32) (wr : Int32) (stt : Nat → Int32) (h1 : (inI x 0 11 && inI y 0 7) = false) : CI l yX4_when wsX4_when rmX4_when E [.ref (o 0), .int x, .int y] [(o 0, moO o ik be so tp fr tq vl wr), (o 5, arI E 7 stt)] [(o 0, moO o ik be so tp fr tq vl wr), (o 5, arI E 7 (upd stt 0 (stt 0 + 1)))] ((-1000000001)) := by
  refine CI.of (own := RX4) (cc := cX4_when) (nL := 3) (rt := (some .int)) (by decide) rfl rfl (Nat.le_of_ble_eq_true rfl) (fun X hX hQ => ?_)
  show G E X 3 0 [(0, .ref (o 0)), (1, .int x), (2, .int y)] [] [(o 0, moO o ik be so tp fr tq vl wr), (o 5, arI E 7 stt)]
  refine G.iload_n hX 1 rfl dX4_when_0 ?_
  refine G.s0i hX (As := [.int x]) (st := []) (c_X4_isTree _ E (x := x) ) gX4_when_X4_isTree cp_X4_isTree (by decide) rfl rfl (Nat.le_of_ble_eq_true rfl) dX4_when_1 ?_
  refine G.b_eq hX (tgt := 27) (by decide) dX4_when_4 (fun c4 => ?_) (fun c4 => ?_)
  · refine G.aload_n hX 0 rfl dX4_when_27 ?_
    refine G.ldc hX (v := -1000000001) (by decide +kernel) dX4_when_28 ?_
    refine G.vi hX (As := [.int ((-1000000001))]) (st := []) (wr := []) (wf := [(o 0, moO o ik be so tp fr tq vl wr), (o 5, arI E 7 (upd stt 0 (stt 0 + 1)))]) (q0 := 0) (ci := 4) rfl rfl (c_X4_finds0 _ E (o := o) (ik := ik) (be := be) (so := so) (tp := tp) (fr := fr) (tq := tq) (vl := vl) (wr := wr) (stt := stt) ) gX4_when_X4_finds cp_X4_finds (by decide) [0, 1] [] [0, 1] ⟨rfl, rfl, by decide, rfl⟩ rfl rfl (Nat.le_of_ble_eq_true rfl) dX4_when_30 ?_
    exact G.iret hX hQ dX4_when_33 (by rfl) (by rfl)
  · refine G.iload_n hX 2 rfl dX4_when_7 ?_
    refine G.s0i hX (As := [.int y]) (st := []) (c_X4_isMessage _ E (x := y) ) gX4_when_X4_isMessage cp_X4_isMessage (by decide) rfl rfl (Nat.le_of_ble_eq_true rfl) dX4_when_8 ?_
    refine G.b_eq hX (tgt := 27) (by decide) dX4_when_11 (fun c11 => ?_) (fun c11 => ?_)
    · refine G.aload_n hX 0 rfl dX4_when_27 ?_
      refine G.ldc hX (v := -1000000001) (by decide +kernel) dX4_when_28 ?_
      refine G.vi hX (As := [.int ((-1000000001))]) (st := []) (wr := []) (wf := [(o 0, moO o ik be so tp fr tq vl wr), (o 5, arI E 7 (upd stt 0 (stt 0 + 1)))]) (q0 := 0) (ci := 4) rfl rfl (c_X4_finds0 _ E (o := o) (ik := ik) (be := be) (so := so) (tp := tp) (fr := fr) (tq := tq) (vl := vl) (wr := wr) (stt := stt) ) gX4_when_X4_finds cp_X4_finds (by decide) [0, 1] [] [0, 1] ⟨rfl, rfl, by decide, rfl⟩ rfl rfl (Nat.le_of_ble_eq_true rfl) dX4_when_30 ?_
      exact G.iret hX hQ dX4_when_33 (by rfl) (by rfl)
    · exact absurd h1 (by simp [c4, c11])
set_option maxHeartbeats 4000000 in
set_option maxRecDepth 100000 in
theorem c_X4_whenok (l : Launch) (E : EV) (t : Nat) (m : Nat) (o : Nat → Nat) (ik : Int32) (be : Int32) (so : Int32) (tp : Int32) (fr : Int32) (tq : Int32) (vl : Int32) (wr : Int32) (s : Nat → Int32) (asd : Nat → Int32) (stt : Nat → Int32) (ge : Nat → Int32) (h1 : t < 12) (h2 : m < 8) (h3 : ms_kt s t m ≤ 200) : CI l yX4_when wsX4_when rmX4_when E [.ref (o 0), .int (nI t), .int (nI m)] [(o 0, moO o ik be so tp fr tq vl wr), (o 1, arI E 122 s), (o 4, arI E 122 asd), (o 5, arI E 7 stt), (o 6, arI E 12 ge)] [(o 0, moO o ik be so tp fr tq vl wr), (o 1, arI E 122 s), (o 4, arI E 122 s), (o 5, arI E 7 stt), (o 6, arI E 12 (ms_gs (ms_kt s t m) s ge))] (nI (ms_kt s t m)) := by
  refine CI.of (own := RX4) (cc := cX4_when) (nL := 3) (rt := (some .int)) (by decide) rfl rfl (Nat.le_of_ble_eq_true rfl) (fun X hX hQ => ?_)
  show G E X 3 0 [(0, .ref (o 0)), (1, .int (nI t)), (2, .int (nI m))] [] [(o 0, moO o ik be so tp fr tq vl wr), (o 1, arI E 122 s), (o 4, arI E 122 asd), (o 5, arI E 7 stt), (o 6, arI E 12 ge)]
  refine G.iload_n hX 1 rfl dX4_when_0 ?_
  refine G.s0i hX (As := [.int (nI t)]) (st := []) (c_X4_isTreen _ E (x := t) (h1 := by omega)) gX4_when_X4_isTree cp_X4_isTree (by decide) rfl rfl (Nat.le_of_ble_eq_true rfl) dX4_when_1 ?_
  refine G.if_eq hX (tgt := 27) (by decide) dX4_when_4 (fun c4 => absurd c4 (by decide)) (fun _ => ?_)
  refine G.iload_n hX 2 rfl dX4_when_7 ?_
  refine G.s0i hX (As := [.int (nI m)]) (st := []) (c_X4_isMessagen _ E (x := m) (h1 := by omega)) gX4_when_X4_isMessage cp_X4_isMessage (by decide) rfl rfl (Nat.le_of_ble_eq_true rfl) dX4_when_8 ?_
  refine G.if_eq hX (tgt := 27) (by decide) dX4_when_11 (fun c11 => absurd c11 (by decide)) (fun _ => ?_)
  refine G.aload_n hX 0 rfl dX4_when_14 ?_
  refine G.aload_n hX 0 rfl dX4_when_15 ?_
  refine G.iload_n hX 1 rfl dX4_when_16 ?_
  refine G.iload_n hX 2 rfl dX4_when_17 ?_
  refine G.vi hX (As := [.int (nI t), .int (nI m)]) (st := [.ref (o 0)]) (wr := [(o 5, arI E 7 stt)]) (wf := [(o 0, moO o ik be so tp fr tq vl wr), (o 1, arI E 122 s), (o 4, arI E 122 s), (o 5, arI E 7 stt), (o 6, arI E 12 (ms_gs (ms_kt s t m) s ge))]) (q0 := 0) (ci := 4) rfl rfl (c_X4_knownInt _ E (t := t) (m := m) (o := o) (ik := ik) (be := be) (so := so) (tp := tp) (fr := fr) (tq := tq) (vl := vl) (wr := wr) (s := s) (asd := asd) (ge := ge) (h1 := by omega) (h2 := by omega)) gX4_when_X4_knownIn cp_X4_knownIn (by decide) [0, 1, 2, 4] [3] [1, 2, 3, 0, 4] ⟨rfl, rfl, by decide, rfl⟩ rfl rfl (Nat.le_of_ble_eq_true rfl) dX4_when_18 ?_
  refine G.vi hX (As := [.int (nI (ms_kt s t m))]) (st := []) (wr := [(o 1, arI E 122 s), (o 4, arI E 122 s), (o 6, arI E 12 (ms_gs (ms_kt s t m) s ge))]) (wf := [(o 0, moO o ik be so tp fr tq vl wr), (o 1, arI E 122 s), (o 4, arI E 122 s), (o 5, arI E 7 stt), (o 6, arI E 12 (ms_gs (ms_kt s t m) s ge))]) (q0 := 0) (ci := 4) rfl rfl (c_X4_orNoneok _ E (n0 := ms_kt s t m) (o := o) (ik := ik) (be := be) (so := so) (tp := tp) (fr := fr) (tq := tq) (vl := vl) (wr := wr) (stt := stt) (h1 := by omega)) gX4_when_X4_orNone cp_X4_orNone (by decide) [0, 3] [1, 2, 4] [3, 0, 1, 4, 2] ⟨rfl, rfl, by decide, rfl⟩ rfl rfl (Nat.le_of_ble_eq_true rfl) dX4_when_21 ?_
  refine G.goto hX (tgt := 33) (by decide) dX4_when_24 ?_
  exact G.iret hX hQ dX4_when_33 (by first | rfl | (simp only [↓reduceIte, Bool.not_true, Bool.not_false, Bool.and_true, Bool.true_and, Bool.and_false, Bool.false_and, Bool.or_true, Bool.true_or, Bool.or_false, Bool.false_or, decide_true, decide_false, not_true_eq_false, not_false_eq_true, Bool.false_eq_true, Bool.true_eq_false]; done) | (simp only [↓reduceIte, Bool.not_true, Bool.not_false, Bool.and_true, Bool.true_and, Bool.and_false, Bool.false_and, Bool.or_true, Bool.true_or, Bool.or_false, Bool.false_or, decide_true, decide_false, not_true_eq_false, not_false_eq_true, Bool.false_eq_true, Bool.true_eq_false]; rfl) | (simp []; done)) (by rfl)
set_option maxHeartbeats 4000000 in
set_option maxRecDepth 100000 in
theorem c_X4_whenno (l : Launch) (E : EV) (t : Nat) (m : Nat) (o : Nat → Nat) (ik : Int32) (be : Int32) (so : Int32) (tp : Int32) (fr : Int32) (tq : Int32) (vl : Int32) (wr : Int32) (s : Nat → Int32) (asd : Nat → Int32) (stt : Nat → Int32) (ge : Nat → Int32) (h1 : t < 12) (h2 : m < 8) (h3 : 200 < ms_kt s t m) : CI l yX4_when wsX4_when rmX4_when E [.ref (o 0), .int (nI t), .int (nI m)] [(o 0, moO o ik be so tp fr tq vl wr), (o 1, arI E 122 s), (o 4, arI E 122 asd), (o 5, arI E 7 stt), (o 6, arI E 12 ge)] [(o 0, moO o ik be so tp fr tq vl wr), (o 1, arI E 122 s), (o 4, arI E 122 s), (o 5, arI E 7 (upd stt 3 (stt 3 + 1))), (o 6, arI E 12 (ms_gs (ms_kt s t m) s ge))] ((-1000000004)) := by
  refine CI.of (own := RX4) (cc := cX4_when) (nL := 3) (rt := (some .int)) (by decide) rfl rfl (Nat.le_of_ble_eq_true rfl) (fun X hX hQ => ?_)
  show G E X 3 0 [(0, .ref (o 0)), (1, .int (nI t)), (2, .int (nI m))] [] [(o 0, moO o ik be so tp fr tq vl wr), (o 1, arI E 122 s), (o 4, arI E 122 asd), (o 5, arI E 7 stt), (o 6, arI E 12 ge)]
  refine G.iload_n hX 1 rfl dX4_when_0 ?_
  refine G.s0i hX (As := [.int (nI t)]) (st := []) (c_X4_isTreen _ E (x := t) (h1 := by omega)) gX4_when_X4_isTree cp_X4_isTree (by decide) rfl rfl (Nat.le_of_ble_eq_true rfl) dX4_when_1 ?_
  refine G.if_eq hX (tgt := 27) (by decide) dX4_when_4 (fun c4 => absurd c4 (by decide)) (fun _ => ?_)
  refine G.iload_n hX 2 rfl dX4_when_7 ?_
  refine G.s0i hX (As := [.int (nI m)]) (st := []) (c_X4_isMessagen _ E (x := m) (h1 := by omega)) gX4_when_X4_isMessage cp_X4_isMessage (by decide) rfl rfl (Nat.le_of_ble_eq_true rfl) dX4_when_8 ?_
  refine G.if_eq hX (tgt := 27) (by decide) dX4_when_11 (fun c11 => absurd c11 (by decide)) (fun _ => ?_)
  refine G.aload_n hX 0 rfl dX4_when_14 ?_
  refine G.aload_n hX 0 rfl dX4_when_15 ?_
  refine G.iload_n hX 1 rfl dX4_when_16 ?_
  refine G.iload_n hX 2 rfl dX4_when_17 ?_
  refine G.vi hX (As := [.int (nI t), .int (nI m)]) (st := [.ref (o 0)]) (wr := [(o 5, arI E 7 stt)]) (wf := [(o 0, moO o ik be so tp fr tq vl wr), (o 1, arI E 122 s), (o 4, arI E 122 s), (o 5, arI E 7 stt), (o 6, arI E 12 (ms_gs (ms_kt s t m) s ge))]) (q0 := 0) (ci := 4) rfl rfl (c_X4_knownInt _ E (t := t) (m := m) (o := o) (ik := ik) (be := be) (so := so) (tp := tp) (fr := fr) (tq := tq) (vl := vl) (wr := wr) (s := s) (asd := asd) (ge := ge) (h1 := by omega) (h2 := by omega)) gX4_when_X4_knownIn cp_X4_knownIn (by decide) [0, 1, 2, 4] [3] [1, 2, 3, 0, 4] ⟨rfl, rfl, by decide, rfl⟩ rfl rfl (Nat.le_of_ble_eq_true rfl) dX4_when_18 ?_
  refine G.vi hX (As := [.int (nI (ms_kt s t m))]) (st := []) (wr := [(o 1, arI E 122 s), (o 4, arI E 122 s), (o 6, arI E 12 (ms_gs (ms_kt s t m) s ge))]) (wf := [(o 0, moO o ik be so tp fr tq vl wr), (o 1, arI E 122 s), (o 4, arI E 122 s), (o 5, arI E 7 (upd stt 3 (stt 3 + 1))), (o 6, arI E 12 (ms_gs (ms_kt s t m) s ge))]) (q0 := 0) (ci := 4) rfl rfl (c_X4_orNoneno _ E (n0 := ms_kt s t m) (o := o) (ik := ik) (be := be) (so := so) (tp := tp) (fr := fr) (tq := tq) (vl := vl) (wr := wr) (stt := stt) (h1 := by omega) (h2 := (by have := kt_le s t m; omega))) gX4_when_X4_orNone cp_X4_orNone (by decide) [0, 3] [1, 2, 4] [3, 0, 1, 4, 2] ⟨rfl, rfl, by decide, rfl⟩ rfl rfl (Nat.le_of_ble_eq_true rfl) dX4_when_21 ?_
  refine G.goto hX (tgt := 33) (by decide) dX4_when_24 ?_
  exact G.iret hX hQ dX4_when_33 (by rfl) (by rfl)
abbrev rmX4_home : Room := { frames := 8, cells := 0, slots := 0, locals := 180 }
theorem cp_X4_home : CP yX4_home RX4 wsX4_home 2 1 rmX4_home := ⟨⟨_, _, _, rfl⟩, rfl, rfl, by decide +kernel⟩
set_option maxHeartbeats 4000000 in
set_option maxRecDepth 100000 in
theorem c_X4_homebad (l : Launch) (E : EV) (x : Int32) (o : Nat → Nat) (ik : Int32) (be : Int32) (so : Int32) (tp : Int32) (fr : Int32) (tq : Int32) (vl : Int32) (wr : Int32) (stt : Nat → Int32) (h1 : inI x 0 7 = false) : CI l yX4_home wsX4_home rmX4_home E [.ref (o 0), .int x] [(o 0, moO o ik be so tp fr tq vl wr), (o 5, arI E 7 stt)] [(o 0, moO o ik be so tp fr tq vl wr), (o 5, arI E 7 (upd stt 0 (stt 0 + 1)))] ((-1000000001)) := by
  refine CI.of (own := RX4) (cc := cX4_home) (nL := 2) (rt := (some .int)) (by decide) rfl rfl (Nat.le_of_ble_eq_true rfl) (fun X hX hQ => ?_)
  show G E X 2 0 [(0, .ref (o 0)), (1, .int x)] [] [(o 0, moO o ik be so tp fr tq vl wr), (o 5, arI E 7 stt)]
  refine G.iload_n hX 1 rfl dX4_home_0 ?_
  refine G.s0i hX (As := [.int x]) (st := []) (c_X4_isMessage _ E (x := x) ) gX4_home_X4_isMessage cp_X4_isMessage (by decide) rfl rfl (Nat.le_of_ble_eq_true rfl) dX4_home_1 ?_
  refine G.b_eq hX (tgt := 20) (by decide) dX4_home_4 (fun c4 => ?_) (fun c4 => ?_)
  · refine G.aload_n hX 0 rfl dX4_home_20 ?_
    refine G.ldc hX (v := -1000000001) (by decide +kernel) dX4_home_21 ?_
    refine G.vi hX (As := [.int ((-1000000001))]) (st := []) (wr := []) (wf := [(o 0, moO o ik be so tp fr tq vl wr), (o 5, arI E 7 (upd stt 0 (stt 0 + 1)))]) (q0 := 0) (ci := 4) rfl rfl (c_X4_finds0 _ E (o := o) (ik := ik) (be := be) (so := so) (tp := tp) (fr := fr) (tq := tq) (vl := vl) (wr := wr) (stt := stt) ) gX4_home_X4_finds cp_X4_finds (by decide) [0, 1] [] [0, 1] ⟨rfl, rfl, by decide, rfl⟩ rfl rfl (Nat.le_of_ble_eq_true rfl) dX4_home_23 ?_
    exact G.iret hX hQ dX4_home_26 (by rfl) (by rfl)
  · exact absurd h1 (by simp [c4])
set_option maxHeartbeats 4000000 in
set_option maxRecDepth 100000 in
theorem c_X4_homeok (l : Launch) (E : EV) (m : Nat) (o : Nat → Nat) (ik : Int32) (be : Int32) (so : Int32) (tp : Int32) (fr : Int32) (tq : Int32) (vl : Int32) (wr : Int32) (s : Nat → Int32) (asd : Nat → Int32) (stt : Nat → Int32) (ge : Nat → Int32) (h1 : m < 8) (h2 : ms_kh s m ≤ 200) : CI l yX4_home wsX4_home rmX4_home E [.ref (o 0), .int (nI m)] [(o 0, moO o ik be so tp fr tq vl wr), (o 1, arI E 122 s), (o 4, arI E 122 asd), (o 5, arI E 7 stt), (o 6, arI E 12 ge)] [(o 0, moO o ik be so tp fr tq vl wr), (o 1, arI E 122 s), (o 4, arI E 122 s), (o 5, arI E 7 stt), (o 6, arI E 12 (ms_gs (ms_kh s m) s ge))] (nI (ms_kh s m)) := by
  refine CI.of (own := RX4) (cc := cX4_home) (nL := 2) (rt := (some .int)) (by decide) rfl rfl (Nat.le_of_ble_eq_true rfl) (fun X hX hQ => ?_)
  show G E X 2 0 [(0, .ref (o 0)), (1, .int (nI m))] [] [(o 0, moO o ik be so tp fr tq vl wr), (o 1, arI E 122 s), (o 4, arI E 122 asd), (o 5, arI E 7 stt), (o 6, arI E 12 ge)]
  refine G.iload_n hX 1 rfl dX4_home_0 ?_
  refine G.s0i hX (As := [.int (nI m)]) (st := []) (c_X4_isMessagen _ E (x := m) (h1 := by omega)) gX4_home_X4_isMessage cp_X4_isMessage (by decide) rfl rfl (Nat.le_of_ble_eq_true rfl) dX4_home_1 ?_
  refine G.if_eq hX (tgt := 20) (by decide) dX4_home_4 (fun c4 => absurd c4 (by decide)) (fun _ => ?_)
  refine G.aload_n hX 0 rfl dX4_home_7 ?_
  refine G.aload_n hX 0 rfl dX4_home_8 ?_
  refine G.iconst hX (v := -1) (by decide) dX4_home_9 ?_
  refine G.iload_n hX 1 rfl dX4_home_10 ?_
  refine G.vi hX (As := [.int ((-1)), .int (nI m)]) (st := [.ref (o 0)]) (wr := [(o 5, arI E 7 stt)]) (wf := [(o 0, moO o ik be so tp fr tq vl wr), (o 1, arI E 122 s), (o 4, arI E 122 s), (o 5, arI E 7 stt), (o 6, arI E 12 (ms_gs (ms_kh s m) s ge))]) (q0 := 0) (ci := 4) rfl rfl (c_X4_knownInh _ E (m := m) (o := o) (ik := ik) (be := be) (so := so) (tp := tp) (fr := fr) (tq := tq) (vl := vl) (wr := wr) (s := s) (asd := asd) (ge := ge) (h1 := by omega)) gX4_home_X4_knownIn cp_X4_knownIn (by decide) [0, 1, 2, 4] [3] [1, 2, 3, 0, 4] ⟨rfl, rfl, by decide, rfl⟩ rfl rfl (Nat.le_of_ble_eq_true rfl) dX4_home_11 ?_
  refine G.vi hX (As := [.int (nI (ms_kh s m))]) (st := []) (wr := [(o 1, arI E 122 s), (o 4, arI E 122 s), (o 6, arI E 12 (ms_gs (ms_kh s m) s ge))]) (wf := [(o 0, moO o ik be so tp fr tq vl wr), (o 1, arI E 122 s), (o 4, arI E 122 s), (o 5, arI E 7 stt), (o 6, arI E 12 (ms_gs (ms_kh s m) s ge))]) (q0 := 0) (ci := 4) rfl rfl (c_X4_orNoneok _ E (n0 := ms_kh s m) (o := o) (ik := ik) (be := be) (so := so) (tp := tp) (fr := fr) (tq := tq) (vl := vl) (wr := wr) (stt := stt) (h1 := by omega)) gX4_home_X4_orNone cp_X4_orNone (by decide) [0, 3] [1, 2, 4] [3, 0, 1, 4, 2] ⟨rfl, rfl, by decide, rfl⟩ rfl rfl (Nat.le_of_ble_eq_true rfl) dX4_home_14 ?_
  refine G.goto hX (tgt := 26) (by decide) dX4_home_17 ?_
  exact G.iret hX hQ dX4_home_26 (by first | rfl | (simp only [↓reduceIte, Bool.not_true, Bool.not_false, Bool.and_true, Bool.true_and, Bool.and_false, Bool.false_and, Bool.or_true, Bool.true_or, Bool.or_false, Bool.false_or, decide_true, decide_false, not_true_eq_false, not_false_eq_true, Bool.false_eq_true, Bool.true_eq_false]; done) | (simp only [↓reduceIte, Bool.not_true, Bool.not_false, Bool.and_true, Bool.true_and, Bool.and_false, Bool.false_and, Bool.or_true, Bool.true_or, Bool.or_false, Bool.false_or, decide_true, decide_false, not_true_eq_false, not_false_eq_true, Bool.false_eq_true, Bool.true_eq_false]; rfl) | (simp []; done)) (by rfl)
set_option maxHeartbeats 4000000 in
set_option maxRecDepth 100000 in
theorem c_X4_homeno (l : Launch) (E : EV) (m : Nat) (o : Nat → Nat) (ik : Int32) (be : Int32) (so : Int32) (tp : Int32) (fr : Int32) (tq : Int32) (vl : Int32) (wr : Int32) (s : Nat → Int32) (asd : Nat → Int32) (stt : Nat → Int32) (ge : Nat → Int32) (h1 : m < 8) (h2 : 200 < ms_kh s m) : CI l yX4_home wsX4_home rmX4_home E [.ref (o 0), .int (nI m)] [(o 0, moO o ik be so tp fr tq vl wr), (o 1, arI E 122 s), (o 4, arI E 122 asd), (o 5, arI E 7 stt), (o 6, arI E 12 ge)] [(o 0, moO o ik be so tp fr tq vl wr), (o 1, arI E 122 s), (o 4, arI E 122 s), (o 5, arI E 7 (upd stt 3 (stt 3 + 1))), (o 6, arI E 12 (ms_gs (ms_kh s m) s ge))] ((-1000000004)) := by
  refine CI.of (own := RX4) (cc := cX4_home) (nL := 2) (rt := (some .int)) (by decide) rfl rfl (Nat.le_of_ble_eq_true rfl) (fun X hX hQ => ?_)
  show G E X 2 0 [(0, .ref (o 0)), (1, .int (nI m))] [] [(o 0, moO o ik be so tp fr tq vl wr), (o 1, arI E 122 s), (o 4, arI E 122 asd), (o 5, arI E 7 stt), (o 6, arI E 12 ge)]
  refine G.iload_n hX 1 rfl dX4_home_0 ?_
  refine G.s0i hX (As := [.int (nI m)]) (st := []) (c_X4_isMessagen _ E (x := m) (h1 := by omega)) gX4_home_X4_isMessage cp_X4_isMessage (by decide) rfl rfl (Nat.le_of_ble_eq_true rfl) dX4_home_1 ?_
  refine G.if_eq hX (tgt := 20) (by decide) dX4_home_4 (fun c4 => absurd c4 (by decide)) (fun _ => ?_)
  refine G.aload_n hX 0 rfl dX4_home_7 ?_
  refine G.aload_n hX 0 rfl dX4_home_8 ?_
  refine G.iconst hX (v := -1) (by decide) dX4_home_9 ?_
  refine G.iload_n hX 1 rfl dX4_home_10 ?_
  refine G.vi hX (As := [.int ((-1)), .int (nI m)]) (st := [.ref (o 0)]) (wr := [(o 5, arI E 7 stt)]) (wf := [(o 0, moO o ik be so tp fr tq vl wr), (o 1, arI E 122 s), (o 4, arI E 122 s), (o 5, arI E 7 stt), (o 6, arI E 12 (ms_gs (ms_kh s m) s ge))]) (q0 := 0) (ci := 4) rfl rfl (c_X4_knownInh _ E (m := m) (o := o) (ik := ik) (be := be) (so := so) (tp := tp) (fr := fr) (tq := tq) (vl := vl) (wr := wr) (s := s) (asd := asd) (ge := ge) (h1 := by omega)) gX4_home_X4_knownIn cp_X4_knownIn (by decide) [0, 1, 2, 4] [3] [1, 2, 3, 0, 4] ⟨rfl, rfl, by decide, rfl⟩ rfl rfl (Nat.le_of_ble_eq_true rfl) dX4_home_11 ?_
  refine G.vi hX (As := [.int (nI (ms_kh s m))]) (st := []) (wr := [(o 1, arI E 122 s), (o 4, arI E 122 s), (o 6, arI E 12 (ms_gs (ms_kh s m) s ge))]) (wf := [(o 0, moO o ik be so tp fr tq vl wr), (o 1, arI E 122 s), (o 4, arI E 122 s), (o 5, arI E 7 (upd stt 3 (stt 3 + 1))), (o 6, arI E 12 (ms_gs (ms_kh s m) s ge))]) (q0 := 0) (ci := 4) rfl rfl (c_X4_orNoneno _ E (n0 := ms_kh s m) (o := o) (ik := ik) (be := be) (so := so) (tp := tp) (fr := fr) (tq := tq) (vl := vl) (wr := wr) (stt := stt) (h1 := by omega) (h2 := (by have := kh_le s m; omega))) gX4_home_X4_orNone cp_X4_orNone (by decide) [0, 3] [1, 2, 4] [3, 0, 1, 4, 2] ⟨rfl, rfl, by decide, rfl⟩ rfl rfl (Nat.le_of_ble_eq_true rfl) dX4_home_14 ?_
  refine G.goto hX (tgt := 26) (by decide) dX4_home_17 ?_
  exact G.iret hX hQ dX4_home_26 (by rfl) (by rfl)
