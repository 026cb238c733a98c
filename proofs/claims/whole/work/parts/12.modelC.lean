abbrev rmX4_last : Room := { frames := 8, cells := 0, slots := 0, locals := 180 }
theorem cp_X4_last : CP yX4_last RX4 wsX4_last 6 1 rmX4_last := ⟨⟨_, _, _, rfl⟩, rfl, rfl, by decide +kernel⟩
set_option maxHeartbeats 4000000 in
set_option maxRecDepth 100000 in
theorem c_X4_lastbad (l : Launch) (E : EV) (x : Int32) (o : Nat → Nat) (ik : Int32) (be : Int32) (so : Int32) (tp : Int32) (fr : Int32) (tq : Int32) (vl : Int32) (wr : Int32) (stt : Nat → Int32) (h1 : inI x 0 7 = false) : CI l yX4_last wsX4_last rmX4_last E [.ref (o 0), .int x] [(o 0, moO o ik be so tp fr tq vl wr), (o 5, arI E 7 stt)] [(o 0, moO o ik be so tp fr tq vl wr), (o 5, arI E 7 (upd stt 0 (stt 0 + 1)))] ((-1000000001)) := by
  refine CI.of (own := RX4) (cc := cX4_last) (nL := 6) (rt := (some .int)) (by decide) rfl rfl (Nat.le_of_ble_eq_true rfl) (fun X hX hQ => ?_)
  show G E X 6 0 [(0, .ref (o 0)), (1, .int x)] [] [(o 0, moO o ik be so tp fr tq vl wr), (o 5, arI E 7 stt)]
  refine G.iload_n hX 1 rfl dX4_last_0 ?_
  refine G.s0i hX (As := [.int x]) (st := []) (c_X4_isMessage _ E (x := x) ) gX4_last_X4_isMessage cp_X4_isMessage (by decide) rfl rfl (Nat.le_of_ble_eq_true rfl) dX4_last_1 ?_
  refine G.b_ne hX (tgt := 14) (by decide) dX4_last_4 (fun c4 => ?_) (fun c4 => ?_)
  · exact absurd h1 (by simp [c4])
  · refine G.aload_n hX 0 rfl dX4_last_7 ?_
    refine G.ldc hX (v := -1000000001) (by decide +kernel) dX4_last_8 ?_
    refine G.vi hX (As := [.int ((-1000000001))]) (st := []) (wr := []) (wf := [(o 0, moO o ik be so tp fr tq vl wr), (o 5, arI E 7 (upd stt 0 (stt 0 + 1)))]) (q0 := 0) (ci := 4) rfl rfl (c_X4_finds0 _ E (o := o) (ik := ik) (be := be) (so := so) (tp := tp) (fr := fr) (tq := tq) (vl := vl) (wr := wr) (stt := stt) ) gX4_last_X4_finds cp_X4_finds (by decide) [0, 1] [] [0, 1] ⟨rfl, rfl, by decide, rfl⟩ rfl rfl (Nat.le_of_ble_eq_true rfl) dX4_last_10 ?_
    exact G.iret hX hQ dX4_last_13 (by rfl) (by rfl)
set_option maxHeartbeats 4000000 in
set_option maxRecDepth 100000 in
theorem c_X4_lastok (l : Launch) (E : EV) (m : Nat) (o : Nat → Nat) (ik : Int32) (be : Int32) (so : Int32) (tp : Int32) (fr : Int32) (tq : Int32) (vl : Int32) (wr : Int32) (s : Nat → Int32) (asd : Nat → Int32) (ge : Nat → Int32) (h1 : m < 8) : CI l yX4_last wsX4_last rmX4_last E [.ref (o 0), .int (nI m)] [(o 0, moO o ik be so tp fr tq vl wr), (o 1, arI E 122 s), (o 4, arI E 122 asd), (o 6, arI E 12 ge)] [(o 0, moO o ik be so tp fr tq vl wr), (o 1, arI E 122 s), (o 4, arI E 122 s), (o 6, arI E 12 ((ms_la s m ge).2.2))] ((ms_la s m ge).1) := by
  refine CI.of (own := RX4) (cc := cX4_last) (nL := 6) (rt := (some .int)) (by decide) rfl rfl (Nat.le_of_ble_eq_true rfl) (fun X hX hQ => ?_)
  show G E X 6 0 [(0, .ref (o 0)), (1, .int (nI m))] [] [(o 0, moO o ik be so tp fr tq vl wr), (o 1, arI E 122 s), (o 4, arI E 122 asd), (o 6, arI E 12 ge)]
  refine G.iload_n hX 1 rfl dX4_last_0 ?_
  refine G.s0i hX (As := [.int (nI m)]) (st := []) (c_X4_isMessagen _ E (x := m) (h1 := by omega)) gX4_last_X4_isMessage cp_X4_isMessage (by decide) rfl rfl (Nat.le_of_ble_eq_true rfl) dX4_last_1 ?_
  refine G.if_ne hX (tgt := 14) (by decide) dX4_last_4 (fun _ => ?_) (fun c4 => absurd c4 (by decide))
  refine G.iconst hX (v := 0) (by decide) dX4_last_14 ?_
  refine G.istore_n hX (lv' := [(2, .int 0), (0, .ref (o 0)), (1, .int (nI m))]) rfl (by decide) rfl dX4_last_15 ?_
  refine G.iconst hX (v := -1) (by decide) dX4_last_16 ?_
  refine G.istore_n hX (lv' := [(3, .int ((-1))), (2, .int 0), (0, .ref (o 0)), (1, .int (nI m))]) rfl (by decide) rfl dX4_last_17 ?_
  refine G.iconst hX (v := 0) (by decide) dX4_last_18 ?_
  refine G.istore hX (lv' := [(4, .int 0), (3, .int ((-1))), (2, .int 0), (0, .ref (o 0)), (1, .int (nI m))]) (by decide) rfl dX4_last_19 ?_
  have L21 : ∀ (n : Nat) (t : Nat) (as0 : Nat → Int32), t ≤ 12 → (0 < t → as0 = s) → 13 ≤ t + n → G E X 6 21 [(0, .ref (o 0)), (1, .int (nI m)), (2, .int ((it (ms_laS s m) t (0, -1, ge)).1)), (3, .int ((it (ms_laS s m) t (0, -1, ge)).2.1)), (4, .int (nI t))] [] [(o 0, moO o ik be so tp fr tq vl wr), (o 1, arI E 122 s), (o 4, arI E 122 as0), (o 6, arI E 12 ((it (ms_laS s m) t (0, -1, ge)).2.2))] := by
    intro n
    induction n with
    | zero => intro t as0 hl21_0 hl21_1 hl21_2; exact absurd hl21_2 (by omega)
    | succ n ih21 =>
      intro t as0 hl21_0 hl21_1 hl21_2
      refine G.iload hX 4 rfl dX4_last_21 ?_
      refine G.bipush hX (v := 12) (by decide) dX4_last_23 ?_
      refine G.n_ge hX (a := t) (b := 12) (tgt := 69) (by omega) (by omega) (by decide) dX4_last_25 (fun c25 => ?_) (fun c25 => ?_)
      · refine G.iload_n hX 2 rfl dX4_last_69 ?_
        exact G.iret hX hQ dX4_last_70 (by obtain rfl : t = 12 := (by omega); rfl) (by obtain rfl : t = 12 := (by omega); obtain rfl : as0 = s := hl21_1 (by omega); rfl)
      · refine G.aload_n hX 0 rfl dX4_last_28 ?_
        refine G.iload hX 4 rfl dX4_last_29 ?_
        refine G.iload_n hX 1 rfl dX4_last_31 ?_
        refine G.vi hX (As := [.int (nI t), .int (nI m)]) (st := []) (wr := []) (wf := [(o 0, moO o ik be so tp fr tq vl wr), (o 1, arI E 122 s), (o 4, arI E 122 s), (o 6, arI E 12 (ms_gs (ms_kt s t m) s ((it (ms_laS s m) t (0, -1, ge)).2.2)))]) (q0 := 0) (ci := 4) rfl rfl (c_X4_knownInt _ E (t := t) (m := m) (o := o) (ik := ik) (be := be) (so := so) (tp := tp) (fr := fr) (tq := tq) (vl := vl) (wr := wr) (s := s) (asd := as0) (ge := (it (ms_laS s m) t (0, -1, ge)).2.2) (h1 := by omega) (h2 := by omega)) gX4_last_X4_knownIn cp_X4_knownIn (by decide) [0, 1, 2, 3] [] [0, 1, 2, 3] ⟨rfl, rfl, by decide, rfl⟩ rfl rfl (Nat.le_of_ble_eq_true rfl) dX4_last_32 ?_
        refine G.istore hX (lv' := [(5, .int (nI (ms_kt s t m))), (0, .ref (o 0)), (1, .int (nI m)), (2, .int ((it (ms_laS s m) t (0, -1, ge)).1)), (3, .int ((it (ms_laS s m) t (0, -1, ge)).2.1)), (4, .int (nI t))]) (by decide) rfl dX4_last_35 ?_
        have J49 : G E X 6 49 [(0, .ref (o 0)), (1, .int (nI m)), (3, .int ((it (ms_laS s m) t (0, -1, ge)).2.1)), (4, .int (nI t)), (5, .int (nI (ms_kt s t m)))] [.int ((it (ms_laS s m) (t + 1) (0, -1, ge)).1)] [(o 0, moO o ik be so tp fr tq vl wr), (o 1, arI E 122 s), (o 4, arI E 122 s), (o 6, arI E 12 (ms_gs (ms_kt s t m) s ((it (ms_laS s m) t (0, -1, ge)).2.2)))] := by
          refine G.istore_n hX (lv' := [(2, .int ((it (ms_laS s m) (t + 1) (0, -1, ge)).1)), (0, .ref (o 0)), (1, .int (nI m)), (3, .int ((it (ms_laS s m) t (0, -1, ge)).2.1)), (4, .int (nI t)), (5, .int (nI (ms_kt s t m)))]) rfl (by decide) rfl dX4_last_49 ?_
          have J62 : G E X 6 62 [(0, .ref (o 0)), (1, .int (nI m)), (2, .int ((it (ms_laS s m) (t + 1) (0, -1, ge)).1)), (4, .int (nI t))] [.int ((it (ms_laS s m) (t + 1) (0, -1, ge)).2.1)] [(o 0, moO o ik be so tp fr tq vl wr), (o 1, arI E 122 s), (o 4, arI E 122 s), (o 6, arI E 12 (ms_gs (ms_kt s t m) s ((it (ms_laS s m) t (0, -1, ge)).2.2)))] := by
            refine G.istore_n hX (lv' := [(3, .int ((it (ms_laS s m) (t + 1) (0, -1, ge)).2.1)), (0, .ref (o 0)), (1, .int (nI m)), (2, .int ((it (ms_laS s m) (t + 1) (0, -1, ge)).1)), (4, .int (nI t))]) rfl (by decide) rfl dX4_last_62 ?_
            refine G.iinc hX (n := 1) (lv' := [(4, .int (nI (t + 1))), (3, .int ((it (ms_laS s m) (t + 1) (0, -1, ge)).2.1)), (0, .ref (o 0)), (1, .int (nI m)), (2, .int ((it (ms_laS s m) (t + 1) (0, -1, ge)).1))]) 4 rfl (inc_nI t 1 rfl) (by decide) rfl dX4_last_63 ?_
            refine G.goto hX (tgt := 21) (by decide) dX4_last_66 ?_
            refine G.lvp (lv' := [(0, .ref (o 0)), (1, .int (nI m)), (2, .int ((it (ms_laS s m) (t + 1) (0, -1, ge)).1)), (3, .int ((it (ms_laS s m) (t + 1) (0, -1, ge)).2.1)), (4, .int (nI (t + 1)))]) [2, 3, 4, 1, 0] rfl ?_
            refine G.lve (lv' := [(0, .ref (o 0)), (1, .int (nI m)), (2, .int ((it (ms_laS s m) (t + 1) (0, -1, ge)).1)), (3, .int ((it (ms_laS s m) (t + 1) (0, -1, ge)).2.1)), (4, .int (nI ((t + 1))))]) (by rfl) ?_
            refine G.we (ws' := [(o 0, moO o ik be so tp fr tq vl wr), (o 1, arI E 122 s), (o 4, arI E 122 s), (o 6, arI E 12 ((it (ms_laS s m) (t + 1) (0, -1, ge)).2.2))]) (by rfl) ?_
            exact ih21 (t + 1) s (by omega) (fun _ => rfl) (by omega)
          refine G.iload hX 5 rfl dX4_last_50 ?_
          refine G.iload_n hX 3 rfl dX4_last_52 ?_
          refine G.icmp_le hX (tgt := 61) (by decide) dX4_last_53 (fun c53 => ?_) (fun c53 => ?_)
          · refine G.iload_n hX 3 rfl dX4_last_61 ?_
            refine G.lvp (lv' := [(0, .ref (o 0)), (1, .int (nI m)), (2, .int ((it (ms_laS s m) (t + 1) (0, -1, ge)).1)), (4, .int (nI t))]) [1, 2, 0, 4] rfl ?_
            refine G.ie (y := (it (ms_laS s m) (t + 1) (0, -1, ge)).2.1) (by first | rfl | (simp only [it_s, ms_laS, ltS, c25, c53, ↓reduceIte, Bool.not_true, Bool.not_false, Bool.and_true, Bool.true_and, Bool.and_false, Bool.false_and, Bool.or_true, Bool.true_or, Bool.or_false, Bool.false_or, decide_true, decide_false, not_true_eq_false, not_false_eq_true, Bool.false_eq_true, Bool.true_eq_false]; done) | (simp only [it_s, ms_laS, ltS, c25, c53, ↓reduceIte, Bool.not_true, Bool.not_false, Bool.and_true, Bool.true_and, Bool.and_false, Bool.false_and, Bool.or_true, Bool.true_or, Bool.or_false, Bool.false_or, decide_true, decide_false, not_true_eq_false, not_false_eq_true, Bool.false_eq_true, Bool.true_eq_false]; rfl) | (simp [it_s, ms_laS, ltS, c25, c53]; done)) ?_
            exact J62
          · refine G.iload hX 5 rfl dX4_last_56 ?_
            refine G.goto hX (tgt := 62) (by decide) dX4_last_58 ?_
            refine G.lvp (lv' := [(0, .ref (o 0)), (1, .int (nI m)), (2, .int ((it (ms_laS s m) (t + 1) (0, -1, ge)).1)), (4, .int (nI t))]) [1, 2, 0, 4] rfl ?_
            refine G.ie (y := (it (ms_laS s m) (t + 1) (0, -1, ge)).2.1) (by first | rfl | (simp only [it_s, ms_laS, ltS, c25, c53, ↓reduceIte, Bool.not_true, Bool.not_false, Bool.and_true, Bool.true_and, Bool.and_false, Bool.false_and, Bool.or_true, Bool.true_or, Bool.or_false, Bool.false_or, decide_true, decide_false, not_true_eq_false, not_false_eq_true, Bool.false_eq_true, Bool.true_eq_false]; done) | (simp only [it_s, ms_laS, ltS, c25, c53, ↓reduceIte, Bool.not_true, Bool.not_false, Bool.and_true, Bool.true_and, Bool.and_false, Bool.false_and, Bool.or_true, Bool.true_or, Bool.or_false, Bool.false_or, decide_true, decide_false, not_true_eq_false, not_false_eq_true, Bool.false_eq_true, Bool.true_eq_false]; rfl) | (simp [it_s, ms_laS, ltS, c25, c53]; done)) ?_
            exact J62
        refine G.iload hX 0 rfl dX4_last_37 ?_
        refine G.iload_n hX 4 rfl dX4_last_39 ?_
        refine G.icmp_le hX (tgt := 48) (by decide) dX4_last_40 (fun c40 => ?_) (fun c40 => ?_)
        · refine G.iload_n hX 3 rfl dX4_last_48 ?_
          refine G.lvp (lv' := [(0, .ref (o 0)), (1, .int (nI m)), (3, .int ((it (ms_laS s m) t (0, -1, ge)).2.1)), (4, .int (nI t)), (5, .int (nI (ms_kt s t m)))]) [1, 2, 4, 5, 0] rfl ?_
          refine G.ie (y := (it (ms_laS s m) (t + 1) (0, -1, ge)).1) (by first | rfl | (simp only [it_s, ms_laS, ltB, c25, c40, ↓reduceIte, Bool.not_true, Bool.not_false, Bool.and_true, Bool.true_and, Bool.and_false, Bool.false_and, Bool.or_true, Bool.true_or, Bool.or_false, Bool.false_or, decide_true, decide_false, not_true_eq_false, not_false_eq_true, Bool.false_eq_true, Bool.true_eq_false]; done) | (simp only [it_s, ms_laS, ltB, c25, c40, ↓reduceIte, Bool.not_true, Bool.not_false, Bool.and_true, Bool.true_and, Bool.and_false, Bool.false_and, Bool.or_true, Bool.true_or, Bool.or_false, Bool.false_or, decide_true, decide_false, not_true_eq_false, not_false_eq_true, Bool.false_eq_true, Bool.true_eq_false]; rfl) | (simp [it_s, ms_laS, ltB, c25, c40]; done)) ?_
          exact J49
        · refine G.iload hX 5 rfl dX4_last_43 ?_
          refine G.goto hX (tgt := 49) (by decide) dX4_last_45 ?_
          refine G.lvp (lv' := [(0, .ref (o 0)), (1, .int (nI m)), (3, .int ((it (ms_laS s m) t (0, -1, ge)).2.1)), (4, .int (nI t)), (5, .int (nI (ms_kt s t m)))]) [1, 2, 4, 5, 0] rfl ?_
          refine G.ie (y := (it (ms_laS s m) (t + 1) (0, -1, ge)).1) (by first | rfl | (simp only [it_s, ms_laS, ltB, c25, c40, ↓reduceIte, Bool.not_true, Bool.not_false, Bool.and_true, Bool.true_and, Bool.and_false, Bool.false_and, Bool.or_true, Bool.true_or, Bool.or_false, Bool.false_or, decide_true, decide_false, not_true_eq_false, not_false_eq_true, Bool.false_eq_true, Bool.true_eq_false]; done) | (simp only [it_s, ms_laS, ltB, c25, c40, ↓reduceIte, Bool.not_true, Bool.not_false, Bool.and_true, Bool.true_and, Bool.and_false, Bool.false_and, Bool.or_true, Bool.true_or, Bool.or_false, Bool.false_or, decide_true, decide_false, not_true_eq_false, not_false_eq_true, Bool.false_eq_true, Bool.true_eq_false]; rfl) | (simp [it_s, ms_laS, ltB, c25, c40]; done)) ?_
          exact J49
  refine G.lvp (lv' := [(0, .ref (o 0)), (1, .int (nI m)), (2, .int 0), (3, .int ((-1))), (4, .int 0)]) [3, 4, 2, 1, 0] rfl ?_
  refine G.lve (lv' := [(0, .ref (o 0)), (1, .int (nI m)), (2, .int ((it (ms_laS s m) 0 (0, -1, ge)).1)), (3, .int ((it (ms_laS s m) 0 (0, -1, ge)).2.1)), (4, .int (nI 0))]) (by rfl) ?_
  refine G.we (ws' := [(o 0, moO o ik be so tp fr tq vl wr), (o 1, arI E 122 s), (o 4, arI E 122 asd), (o 6, arI E 12 ((it (ms_laS s m) 0 (0, -1, ge)).2.2))]) (by rfl) ?_
  exact L21 13 0 asd (by omega) (fun h => absurd h (by omega)) (by omega)
abbrev rmX4_begins : Room := { frames := 0, cells := 0, slots := 0, locals := 0 }
theorem cp_X4_begins : CP yX4_begins RX4 wsX4_begins 2 1 rmX4_begins := ⟨⟨_, _, _, rfl⟩, rfl, rfl, by decide +kernel⟩
theorem inc_X4_begins_4 : ∀ w ∈ u_ws RX4 TX4 19, w ∈ wsX4_begins := by decide +kernel
set_option maxHeartbeats 4000000 in
set_option maxRecDepth 100000 in
theorem c_X4_begins (l : Launch) (E : EV) (v : Int32) (o : Nat → Nat) (ik : Int32) (be : Int32) (so : Int32) (tp : Int32) (fr : Int32) (tq : Int32) (vl : Int32) (wr : Int32)  : CV l yX4_begins wsX4_begins rmX4_begins E [.ref (o 0), .int v] [(o 0, moO o ik be so tp fr tq vl wr)] [(o 0, moO o ik ((-1)) v tp fr tq vl wr)] := by
  refine CV.of (own := RX4) (cc := cX4_begins) (nL := 2) (rt := none) (by decide) rfl rfl (Nat.le_of_ble_eq_true rfl) (fun X hX hQ => ?_)
  show G E X 2 0 [(0, .ref (o 0)), (1, .int v)] [] [(o 0, moO o ik be so tp fr tq vl wr)]
  refine G.aload_n hX 0 rfl dX4_begins_0 ?_
  refine G.iconst hX (v := -1) (by decide) dX4_begins_1 ?_
  refine G.put hX (ws' := [(o 0, moO o ik ((-1)) so tp fr tq vl wr)]) inc_X4_begins_4 tyX4 tyX4_ok nmX4 0 rfl rfl 7 (by decide) (by decide +kernel) rfl (tyX4_ok 7 (by decide)) rfl rfl (Nat.le_of_ble_eq_true rfl) rfl rfl dX4_begins_2 ?_
  refine G.aload_n hX 0 rfl dX4_begins_5 ?_
  refine G.iload_n hX 1 rfl dX4_begins_6 ?_
  refine G.put hX (ws' := [(o 0, moO o ik ((-1)) v tp fr tq vl wr)]) inc_X4_begins_4 tyX4 tyX4_ok nmX4 0 rfl rfl 8 (by decide) (by decide +kernel) rfl (tyX4_ok 8 (by decide)) rfl rfl (Nat.le_of_ble_eq_true rfl) rfl rfl dX4_begins_7 ?_
  exact G.vret hX hQ dX4_begins_10 (by rfl)
abbrev rmX4_tries : Room := { frames := 0, cells := 0, slots := 0, locals := 0 }
theorem cp_X4_tries : CP yX4_tries RX4 wsX4_tries 3 2 rmX4_tries := ⟨⟨_, _, _, rfl⟩, rfl, rfl, by decide +kernel⟩
theorem inc_X4_tries_4 : ∀ w ∈ u_ws RX4 TX4 19, w ∈ wsX4_tries := by decide +kernel
set_option maxHeartbeats 4000000 in
set_option maxRecDepth 100000 in
theorem c_X4_tries (l : Launch) (E : EV) (v : Int32) (w : Int32) (o : Nat → Nat) (ik : Int32) (be : Int32) (so : Int32) (tp : Int32) (fr : Int32) (tq : Int32) (vl : Int32) (wr : Int32)  : CV l yX4_tries wsX4_tries rmX4_tries E [.ref (o 0), .int v, .int w] [(o 0, moO o ik be so tp fr tq vl wr)] [(o 0, moO o ik (trB be so v w) (trS so w) tp fr tq vl wr)] := by
  refine CV.of (own := RX4) (cc := cX4_tries) (nL := 3) (rt := none) (by decide) rfl rfl (Nat.le_of_ble_eq_true rfl) (fun X hX hQ => ?_)
  show G E X 3 0 [(0, .ref (o 0)), (1, .int v), (2, .int w)] [] [(o 0, moO o ik be so tp fr tq vl wr)]
  refine G.aload_n hX 0 rfl dX4_tries_0 ?_
  refine G.iload_n hX 2 rfl dX4_tries_1 ?_
  have J17 : G E X 3 17 [(0, .ref (o 0)), (1, .int v), (2, .int w)] [.int (trB be so v w), .ref (o 0)] [(o 0, moO o ik be so tp fr tq vl wr)] := by
    refine G.put hX (ws' := [(o 0, moO o ik (trB be so v w) so tp fr tq vl wr)]) inc_X4_tries_4 tyX4 tyX4_ok nmX4 0 rfl rfl 7 (by decide) (by decide +kernel) rfl (tyX4_ok 7 (by decide)) rfl rfl (Nat.le_of_ble_eq_true rfl) rfl rfl dX4_tries_17 ?_
    have J37 : G E X 3 37 [] [.int (trS so w), .ref (o 0)] [(o 0, moO o ik (trB be so v w) so tp fr tq vl wr)] := by
      refine G.put hX (ws' := [(o 0, moO o ik (trB be so v w) (trS so w) tp fr tq vl wr)]) inc_X4_tries_4 tyX4 tyX4_ok nmX4 0 rfl rfl 8 (by decide) (by decide +kernel) rfl (tyX4_ok 8 (by decide)) rfl rfl (Nat.le_of_ble_eq_true rfl) rfl rfl dX4_tries_37 ?_
      exact G.vret hX hQ dX4_tries_40 (by rfl)
    refine G.aload_n hX 0 rfl dX4_tries_20 ?_
    refine G.iload_n hX 2 rfl dX4_tries_21 ?_
    refine G.aload_n hX 0 rfl dX4_tries_22 ?_
    refine G.get hX inc_X4_tries_4 0 rfl rfl 8 (by decide) (by decide +kernel) rfl dX4_tries_23 ?_
    refine G.icmp_ge hX (tgt := 33) (by decide) dX4_tries_26 (fun c26 => ?_) (fun c26 => ?_)
    · refine G.aload_n hX 0 rfl dX4_tries_33 ?_
      refine G.get hX inc_X4_tries_4 0 rfl rfl 8 (by decide) (by decide +kernel) rfl dX4_tries_34 ?_
      refine G.lvp (lv' := []) [] rfl ?_
      refine G.ve (y := .int (trS so w)) (by first | rfl | (simp only [trS, c26, ↓reduceIte, Bool.not_true, Bool.not_false, Bool.and_true, Bool.true_and, Bool.and_false, Bool.false_and, Bool.or_true, Bool.true_or, Bool.or_false, Bool.false_or, decide_true, decide_false, not_true_eq_false, not_false_eq_true, Bool.false_eq_true, Bool.true_eq_false]; done) | (simp only [trS, c26, ↓reduceIte, Bool.not_true, Bool.not_false, Bool.and_true, Bool.true_and, Bool.and_false, Bool.false_and, Bool.or_true, Bool.true_or, Bool.or_false, Bool.false_or, decide_true, decide_false, not_true_eq_false, not_false_eq_true, Bool.false_eq_true, Bool.true_eq_false]; rfl) | (simp [trS, c26]; done)) ?_
      exact J37
    · refine G.iload_n hX 2 rfl dX4_tries_29 ?_
      refine G.goto hX (tgt := 37) (by decide) dX4_tries_30 ?_
      refine G.lvp (lv' := []) [] rfl ?_
      refine G.ve (y := .int (trS so w)) (by first | rfl | (simp only [trS, c26, ↓reduceIte, Bool.not_true, Bool.not_false, Bool.and_true, Bool.true_and, Bool.and_false, Bool.false_and, Bool.or_true, Bool.true_or, Bool.or_false, Bool.false_or, decide_true, decide_false, not_true_eq_false, not_false_eq_true, Bool.false_eq_true, Bool.true_eq_false]; done) | (simp only [trS, c26, ↓reduceIte, Bool.not_true, Bool.not_false, Bool.and_true, Bool.true_and, Bool.and_false, Bool.false_and, Bool.or_true, Bool.true_or, Bool.or_false, Bool.false_or, decide_true, decide_false, not_true_eq_false, not_false_eq_true, Bool.false_eq_true, Bool.true_eq_false]; rfl) | (simp [trS, c26]; done)) ?_
      exact J37
  refine G.aload_n hX 0 rfl dX4_tries_2 ?_
  refine G.get hX inc_X4_tries_4 0 rfl rfl 8 (by decide) (by decide +kernel) rfl dX4_tries_3 ?_
  refine G.icmp_ge hX (tgt := 13) (by decide) dX4_tries_6 (fun c6 => ?_) (fun c6 => ?_)
  · refine G.aload_n hX 0 rfl dX4_tries_13 ?_
    refine G.get hX inc_X4_tries_4 0 rfl rfl 7 (by decide) (by decide +kernel) rfl dX4_tries_14 ?_
    refine G.ve (y := .int (trB be so v w)) (by first | rfl | (simp only [trB, c6, ↓reduceIte, Bool.not_true, Bool.not_false, Bool.and_true, Bool.true_and, Bool.and_false, Bool.false_and, Bool.or_true, Bool.true_or, Bool.or_false, Bool.false_or, decide_true, decide_false, not_true_eq_false, not_false_eq_true, Bool.false_eq_true, Bool.true_eq_false]; done) | (simp only [trB, c6, ↓reduceIte, Bool.not_true, Bool.not_false, Bool.and_true, Bool.true_and, Bool.and_false, Bool.false_and, Bool.or_true, Bool.true_or, Bool.or_false, Bool.false_or, decide_true, decide_false, not_true_eq_false, not_false_eq_true, Bool.false_eq_true, Bool.true_eq_false]; rfl) | (simp [trB, c6]; done)) ?_
    exact J17
  · refine G.iload_n hX 1 rfl dX4_tries_9 ?_
    refine G.goto hX (tgt := 17) (by decide) dX4_tries_10 ?_
    refine G.ve (y := .int (trB be so v w)) (by first | rfl | (simp only [trB, c6, ↓reduceIte, Bool.not_true, Bool.not_false, Bool.and_true, Bool.true_and, Bool.and_false, Bool.false_and, Bool.or_true, Bool.true_or, Bool.or_false, Bool.false_or, decide_true, decide_false, not_true_eq_false, not_false_eq_true, Bool.false_eq_true, Bool.true_eq_false]; done) | (simp only [trB, c6, ↓reduceIte, Bool.not_true, Bool.not_false, Bool.and_true, Bool.true_and, Bool.and_false, Bool.false_and, Bool.or_true, Bool.true_or, Bool.or_false, Bool.false_or, decide_true, decide_false, not_true_eq_false, not_false_eq_true, Bool.false_eq_true, Bool.true_eq_false]; rfl) | (simp [trB, c6]; done)) ?_
    exact J17
abbrev rmX4_bestOrNone : Room := { frames := 1, cells := 0, slots := 0, locals := 21 }
theorem cp_X4_bestOrNone : CP yX4_bestOrNone RX4 wsX4_bestOrNone 1 0 rmX4_bestOrNone := ⟨⟨_, _, _, rfl⟩, rfl, rfl, by decide +kernel⟩
theorem inc_X4_bestOrNone_4 : ∀ w ∈ u_ws RX4 TX4 19, w ∈ wsX4_bestOrNone := by decide +kernel
set_option maxHeartbeats 4000000 in
set_option maxRecDepth 100000 in
theorem c_X4_bestOrNoneok (l : Launch) (E : EV) (o : Nat → Nat) (ik : Int32) (be : Int32) (so : Int32) (tp : Int32) (fr : Int32) (tq : Int32) (vl : Int32) (wr : Int32) (h1 : 0 ≤ be) : CI l yX4_bestOrNone wsX4_bestOrNone rmX4_bestOrNone E [.ref (o 0)] [(o 0, moO o ik be so tp fr tq vl wr)] [(o 0, moO o ik be so tp fr tq vl wr)] be := by
  refine CI.of (own := RX4) (cc := cX4_bestOrNone) (nL := 1) (rt := (some .int)) (by decide) rfl rfl (Nat.le_of_ble_eq_true rfl) (fun X hX hQ => ?_)
  show G E X 1 0 [(0, .ref (o 0))] [] [(o 0, moO o ik be so tp fr tq vl wr)]
  refine G.aload_n hX 0 rfl dX4_bestOrNone_0 ?_
  refine G.get hX inc_X4_bestOrNone_4 0 rfl rfl 7 (by decide) (by decide +kernel) rfl dX4_bestOrNone_1 ?_
  refine G.if_ge hX (tgt := 16) (by decide) dX4_bestOrNone_4 (fun c4 => ?_) (fun c4 => ?_)
  · refine G.aload_n hX 0 rfl dX4_bestOrNone_16 ?_
    refine G.get hX inc_X4_bestOrNone_4 0 rfl rfl 7 (by decide) (by decide +kernel) rfl dX4_bestOrNone_17 ?_
    exact G.iret hX hQ dX4_bestOrNone_20 (by rfl) (by rfl)
  · exact absurd h1 c4
set_option maxHeartbeats 4000000 in
set_option maxRecDepth 100000 in
theorem c_X4_bestOrNoneno (l : Launch) (E : EV) (o : Nat → Nat) (ik : Int32) (be : Int32) (so : Int32) (tp : Int32) (fr : Int32) (tq : Int32) (vl : Int32) (wr : Int32) (stt : Nat → Int32) (h1 : ¬ 0 ≤ be) : CI l yX4_bestOrNone wsX4_bestOrNone rmX4_bestOrNone E [.ref (o 0)] [(o 0, moO o ik be so tp fr tq vl wr), (o 5, arI E 7 stt)] [(o 0, moO o ik be so tp fr tq vl wr), (o 5, arI E 7 (upd stt 3 (stt 3 + 1)))] ((-1000000004)) := by
  refine CI.of (own := RX4) (cc := cX4_bestOrNone) (nL := 1) (rt := (some .int)) (by decide) rfl rfl (Nat.le_of_ble_eq_true rfl) (fun X hX hQ => ?_)
  show G E X 1 0 [(0, .ref (o 0))] [] [(o 0, moO o ik be so tp fr tq vl wr), (o 5, arI E 7 stt)]
  refine G.aload_n hX 0 rfl dX4_bestOrNone_0 ?_
  refine G.get hX inc_X4_bestOrNone_4 0 rfl rfl 7 (by decide) (by decide +kernel) rfl dX4_bestOrNone_1 ?_
  refine G.if_ge hX (tgt := 16) (by decide) dX4_bestOrNone_4 (fun c4 => ?_) (fun c4 => ?_)
  · exact absurd c4 h1
  · refine G.aload_n hX 0 rfl dX4_bestOrNone_7 ?_
    refine G.ldc hX (v := -1000000004) (by decide +kernel) dX4_bestOrNone_8 ?_
    refine G.vi hX (As := [.int ((-1000000004))]) (st := []) (wr := []) (wf := [(o 0, moO o ik be so tp fr tq vl wr), (o 5, arI E 7 (upd stt 3 (stt 3 + 1)))]) (q0 := 0) (ci := 4) rfl rfl (c_X4_finds3 _ E (o := o) (ik := ik) (be := be) (so := so) (tp := tp) (fr := fr) (tq := tq) (vl := vl) (wr := wr) (stt := stt) ) gX4_bestOrNone_X4_finds cp_X4_finds (by decide) [0, 1] [] [0, 1] ⟨rfl, rfl, by decide, rfl⟩ rfl rfl (Nat.le_of_ble_eq_true rfl) dX4_bestOrNone_10 ?_
    refine G.goto hX (tgt := 20) (by decide) dX4_bestOrNone_13 ?_
    exact G.iret hX hQ dX4_bestOrNone_20 (by rfl) (by rfl)
abbrev rmX4_introduce : Room := { frames := 8, cells := 0, slots := 0, locals := 180 }
theorem cp_X4_introduce : CP yX4_introduce RX4 wsX4_introduce 4 1 rmX4_introduce := ⟨⟨_, _, _, rfl⟩, rfl, rfl, by decide +kernel⟩
theorem inc_X4_introduce_4 : ∀ w ∈ u_ws RX4 TX4 19, w ∈ wsX4_introduce := by decide +kernel
set_option maxHeartbeats 4000000 in
set_option maxRecDepth 100000 in
theorem c_X4_introducebad (l : Launch) (E : EV) (x : Int32) (o : Nat → Nat) (ik : Int32) (be : Int32) (so : Int32) (tp : Int32) (fr : Int32) (tq : Int32) (vl : Int32) (wr : Int32) (stt : Nat → Int32) (h1 : inI x 0 7 = false) : CI l yX4_introduce wsX4_introduce rmX4_introduce E [.ref (o 0), .int x] [(o 0, moO o ik be so tp fr tq vl wr), (o 5, arI E 7 stt)] [(o 0, moO o ik be so tp fr tq vl wr), (o 5, arI E 7 (upd stt 0 (stt 0 + 1)))] ((-1000000001)) := by
  refine CI.of (own := RX4) (cc := cX4_introduce) (nL := 4) (rt := (some .int)) (by decide) rfl rfl (Nat.le_of_ble_eq_true rfl) (fun X hX hQ => ?_)
  show G E X 4 0 [(0, .ref (o 0)), (1, .int x)] [] [(o 0, moO o ik be so tp fr tq vl wr), (o 5, arI E 7 stt)]
  refine G.iload_n hX 1 rfl dX4_introduce_0 ?_
  refine G.s0i hX (As := [.int x]) (st := []) (c_X4_isMessage _ E (x := x) ) gX4_introduce_X4_isMessage cp_X4_isMessage (by decide) rfl rfl (Nat.le_of_ble_eq_true rfl) dX4_introduce_1 ?_
  refine G.b_ne hX (tgt := 14) (by decide) dX4_introduce_4 (fun c4 => ?_) (fun c4 => ?_)
  · exact absurd h1 (by simp [c4])
  · refine G.aload_n hX 0 rfl dX4_introduce_7 ?_
    refine G.ldc hX (v := -1000000001) (by decide +kernel) dX4_introduce_8 ?_
    refine G.vi hX (As := [.int ((-1000000001))]) (st := []) (wr := []) (wf := [(o 0, moO o ik be so tp fr tq vl wr), (o 5, arI E 7 (upd stt 0 (stt 0 + 1)))]) (q0 := 0) (ci := 4) rfl rfl (c_X4_finds0 _ E (o := o) (ik := ik) (be := be) (so := so) (tp := tp) (fr := fr) (tq := tq) (vl := vl) (wr := wr) (stt := stt) ) gX4_introduce_X4_finds cp_X4_finds (by decide) [0, 1] [] [0, 1] ⟨rfl, rfl, by decide, rfl⟩ rfl rfl (Nat.le_of_ble_eq_true rfl) dX4_introduce_10 ?_
    exact G.iret hX hQ dX4_introduce_13 (by rfl) (by rfl)
set_option maxHeartbeats 4000000 in
set_option maxRecDepth 100000 in
theorem c_X4_introduceok (l : Launch) (E : EV) (m : Nat) (o : Nat → Nat) (ik : Int32) (be : Int32) (so : Int32) (tp : Int32) (fr : Int32) (tq : Int32) (vl : Int32) (wr : Int32) (s : Nat → Int32) (asd : Nat → Int32) (stt : Nat → Int32) (ge : Nat → Int32) (h1 : m < 8) (h2 : 0 ≤ (ms_in s m ge).1) : CI l yX4_introduce wsX4_introduce rmX4_introduce E [.ref (o 0), .int (nI m)] [(o 0, moO o ik be so tp fr tq vl wr), (o 1, arI E 122 s), (o 4, arI E 122 asd), (o 5, arI E 7 stt), (o 6, arI E 12 ge)] [(o 0, moO o ik ((ms_in s m ge).1) ((ms_in s m ge).2.1) tp fr tq vl wr), (o 1, arI E 122 s), (o 4, arI E 122 ((ms_in s m ge).2.2.2.1)), (o 5, arI E 7 stt), (o 6, arI E 12 ((ms_in s m ge).2.2.2.2))] ((ms_in s m ge).1) := by
  refine CI.of (own := RX4) (cc := cX4_introduce) (nL := 4) (rt := (some .int)) (by decide) rfl rfl (Nat.le_of_ble_eq_true rfl) (fun X hX hQ => ?_)
  show G E X 4 0 [(0, .ref (o 0)), (1, .int (nI m))] [] [(o 0, moO o ik be so tp fr tq vl wr), (o 1, arI E 122 s), (o 4, arI E 122 asd), (o 5, arI E 7 stt), (o 6, arI E 12 ge)]
  refine G.iload_n hX 1 rfl dX4_introduce_0 ?_
  refine G.s0i hX (As := [.int (nI m)]) (st := []) (c_X4_isMessagen _ E (x := m) (h1 := by omega)) gX4_introduce_X4_isMessage cp_X4_isMessage (by decide) rfl rfl (Nat.le_of_ble_eq_true rfl) dX4_introduce_1 ?_
  refine G.if_ne hX (tgt := 14) (by decide) dX4_introduce_4 (fun _ => ?_) (fun c4 => absurd c4 (by decide))
  refine G.aload_n hX 0 rfl dX4_introduce_14 ?_
  refine G.aload_n hX 0 rfl dX4_introduce_15 ?_
  refine G.iconst hX (v := -1) (by decide) dX4_introduce_16 ?_
  refine G.iload_n hX 1 rfl dX4_introduce_17 ?_
  refine G.vi hX (As := [.int ((-1)), .int (nI m)]) (st := [.ref (o 0)]) (wr := [(o 5, arI E 7 stt)]) (wf := [(o 0, moO o ik be so tp fr tq vl wr), (o 1, arI E 122 s), (o 4, arI E 122 s), (o 5, arI E 7 stt), (o 6, arI E 12 (ms_gs (ms_kh s m) s ge))]) (q0 := 0) (ci := 4) rfl rfl (c_X4_knownInh _ E (m := m) (o := o) (ik := ik) (be := be) (so := so) (tp := tp) (fr := fr) (tq := tq) (vl := vl) (wr := wr) (s := s) (asd := asd) (ge := ge) (h1 := by omega)) gX4_introduce_X4_knownIn cp_X4_knownIn (by decide) [0, 1, 2, 4] [3] [1, 2, 3, 0, 4] ⟨rfl, rfl, by decide, rfl⟩ rfl rfl (Nat.le_of_ble_eq_true rfl) dX4_introduce_18 ?_
  refine G.vv hX (As := [.int (nI (ms_kh s m))]) (st := []) (wr := [(o 1, arI E 122 s), (o 4, arI E 122 s), (o 5, arI E 7 stt), (o 6, arI E 12 (ms_gs (ms_kh s m) s ge))]) (wf := [(o 0, moO o ik ((-1)) ((nI (ms_kh s m))) tp fr tq vl wr), (o 1, arI E 122 s), (o 4, arI E 122 s), (o 5, arI E 7 stt), (o 6, arI E 12 (ms_gs (ms_kh s m) s ge))]) (q0 := 0) (ci := 4) rfl rfl (c_X4_begins _ E (v := nI (ms_kh s m)) (o := o) (ik := ik) (be := be) (so := so) (tp := tp) (fr := fr) (tq := tq) (vl := vl) (wr := wr) ) gX4_introduce_X4_begins cp_X4_begins (by decide) [0] [1, 2, 3, 4] [4, 0, 1, 2, 3] ⟨rfl, rfl, by decide, rfl⟩ rfl rfl (Nat.le_of_ble_eq_true rfl) dX4_introduce_21 ?_
  refine G.aload_n hX 0 rfl dX4_introduce_24 ?_
  refine G.get hX inc_X4_introduce_4 0 rfl rfl 0 (by decide) (by decide +kernel) rfl dX4_introduce_25 ?_
  refine G.iconst hX (v := 1) (by decide) dX4_introduce_28 ?_
  refine G.iald hX (j := 1) 1 rfl (by omega) (by omega) dX4_introduce_29 ?_
  refine G.istore_n hX (lv' := [(2, .int (s 1)), (0, .ref (o 0)), (1, .int (nI m))]) rfl (by decide) rfl dX4_introduce_30 ?_
  refine G.iconst hX (v := 0) (by decide) dX4_introduce_31 ?_
  refine G.istore_n hX (lv' := [(3, .int 0), (2, .int (s 1)), (0, .ref (o 0)), (1, .int (nI m))]) rfl (by decide) rfl dX4_introduce_32 ?_
  have L33 : ∀ (n : Nat) (p : Nat), p ≤ 6 → 7 ≤ p + n → G E X 4 33 [(0, .ref (o 0)), (1, .int (nI m)), (2, .int (s 1)), (3, .int (nI p))] [] [(o 0, moO o ik ((it (ms_inS s m) p (-1, nI (ms_kh s m), s 1, s, ms_gs (ms_kh s m) s ge)).1) ((it (ms_inS s m) p (-1, nI (ms_kh s m), s 1, s, ms_gs (ms_kh s m) s ge)).2.1) tp fr tq vl wr), (o 1, arI E 122 (upd s 1 (it (ms_inS s m) p (-1, nI (ms_kh s m), s 1, s, ms_gs (ms_kh s m) s ge)).2.2.1)), (o 4, arI E 122 ((it (ms_inS s m) p (-1, nI (ms_kh s m), s 1, s, ms_gs (ms_kh s m) s ge)).2.2.2.1)), (o 5, arI E 7 stt), (o 6, arI E 12 ((it (ms_inS s m) p (-1, nI (ms_kh s m), s 1, s, ms_gs (ms_kh s m) s ge)).2.2.2.2))] := by
    intro n
    induction n with
    | zero => intro p hl33_0 hl33_1; exact absurd hl33_1 (by omega)
    | succ n ih33 =>
      intro p hl33_0 hl33_1
      refine G.iload_n hX 3 rfl dX4_introduce_33 ?_
      refine G.bipush hX (v := 6) (by decide) dX4_introduce_34 ?_
      refine G.n_ge hX (a := p) (b := 6) (tgt := 75) (by omega) (by omega) (by decide) dX4_introduce_36 (fun c36 => ?_) (fun c36 => ?_)
      · obtain rfl : p = 6 := by omega
        refine G.aload_n hX 0 rfl dX4_introduce_75 ?_
        refine G.get hX inc_X4_introduce_4 0 rfl rfl 0 (by decide) (by decide +kernel) rfl dX4_introduce_76 ?_
        refine G.iconst hX (v := 1) (by decide) dX4_introduce_79 ?_
        refine G.iload_n hX 2 rfl dX4_introduce_80 ?_
        refine G.iast hX (j := 1) (ws' := [(o 0, moO o ik ((it (ms_inS s m) 6 (-1, nI (ms_kh s m), s 1, s, ms_gs (ms_kh s m) s ge)).1) ((it (ms_inS s m) 6 (-1, nI (ms_kh s m), s 1, s, ms_gs (ms_kh s m) s ge)).2.1) tp fr tq vl wr), (o 1, arI E 122 (upd (upd s 1 (it (ms_inS s m) 6 (-1, nI (ms_kh s m), s 1, s, ms_gs (ms_kh s m) s ge)).2.2.1) 1 (s 1))), (o 4, arI E 122 ((it (ms_inS s m) 6 (-1, nI (ms_kh s m), s 1, s, ms_gs (ms_kh s m) s ge)).2.2.2.1)), (o 5, arI E 7 stt), (o 6, arI E 12 ((it (ms_inS s m) 6 (-1, nI (ms_kh s m), s 1, s, ms_gs (ms_kh s m) s ge)).2.2.2.2))]) 1 rfl (by omega) (by omega) rfl rfl dX4_introduce_81 ?_
        refine G.we (ws' := [(o 0, moO o ik ((ms_in s m ge).1) ((ms_in s m ge).2.1) tp fr tq vl wr), (o 1, arI E 122 s), (o 4, arI E 122 ((ms_in s m ge).2.2.2.1)), (o 5, arI E 7 stt), (o 6, arI E 12 ((ms_in s m ge).2.2.2.2))]) (by rw [upd2, updS]; rfl) ?_
        refine G.aload_n hX 0 rfl dX4_introduce_82 ?_
        refine G.vi hX (As := []) (st := []) (wr := [(o 1, arI E 122 s), (o 4, arI E 122 ((ms_in s m ge).2.2.2.1)), (o 5, arI E 7 stt), (o 6, arI E 12 ((ms_in s m ge).2.2.2.2))]) (wf := [(o 0, moO o ik ((ms_in s m ge).1) ((ms_in s m ge).2.1) tp fr tq vl wr), (o 1, arI E 122 s), (o 4, arI E 122 ((ms_in s m ge).2.2.2.1)), (o 5, arI E 7 stt), (o 6, arI E 12 ((ms_in s m ge).2.2.2.2))]) (q0 := 0) (ci := 4) rfl rfl (c_X4_bestOrNoneok _ E (o := o) (ik := ik) (be := (ms_in s m ge).1) (so := (ms_in s m ge).2.1) (tp := tp) (fr := fr) (tq := tq) (vl := vl) (wr := wr) (h1 := by omega)) gX4_introduce_X4_bestOrNone cp_X4_bestOrNone (by decide) [0] [1, 2, 3, 4] [4, 0, 1, 2, 3] ⟨rfl, rfl, by decide, rfl⟩ rfl rfl (Nat.le_of_ble_eq_true rfl) dX4_introduce_83 ?_
        exact G.iret hX hQ dX4_introduce_86 (by first | rfl | (simp only [c36, ↓reduceIte, Bool.not_true, Bool.not_false, Bool.and_true, Bool.true_and, Bool.and_false, Bool.false_and, Bool.or_true, Bool.true_or, Bool.or_false, Bool.false_or, decide_true, decide_false, not_true_eq_false, not_false_eq_true, Bool.false_eq_true, Bool.true_eq_false]; done) | (simp only [c36, ↓reduceIte, Bool.not_true, Bool.not_false, Bool.and_true, Bool.true_and, Bool.and_false, Bool.false_and, Bool.or_true, Bool.true_or, Bool.or_false, Bool.false_or, decide_true, decide_false, not_true_eq_false, not_false_eq_true, Bool.false_eq_true, Bool.true_eq_false]; rfl) | (simp [c36]; done)) (by rfl)
      · have J69 : G E X 4 69 [(0, .ref (o 0)), (1, .int (nI m)), (2, .int (s 1)), (3, .int (nI p))] [] [(o 0, moO o ik ((it (ms_inS s m) (p + 1) (-1, nI (ms_kh s m), s 1, s, ms_gs (ms_kh s m) s ge)).1) ((it (ms_inS s m) (p + 1) (-1, nI (ms_kh s m), s 1, s, ms_gs (ms_kh s m) s ge)).2.1) tp fr tq vl wr), (o 1, arI E 122 (upd s 1 (it (ms_inS s m) (p + 1) (-1, nI (ms_kh s m), s 1, s, ms_gs (ms_kh s m) s ge)).2.2.1)), (o 4, arI E 122 ((it (ms_inS s m) (p + 1) (-1, nI (ms_kh s m), s 1, s, ms_gs (ms_kh s m) s ge)).2.2.2.1)), (o 5, arI E 7 stt), (o 6, arI E 12 ((it (ms_inS s m) (p + 1) (-1, nI (ms_kh s m), s 1, s, ms_gs (ms_kh s m) s ge)).2.2.2.2))] := by
          refine G.iinc hX (n := 1) (lv' := [(3, .int (nI (p + 1))), (0, .ref (o 0)), (1, .int (nI m)), (2, .int (s 1))]) 3 rfl (inc_nI p 1 rfl) (by decide) rfl dX4_introduce_69 ?_
          refine G.goto hX (tgt := 33) (by decide) dX4_introduce_72 ?_
          refine G.lvp (lv' := [(0, .ref (o 0)), (1, .int (nI m)), (2, .int (s 1)), (3, .int (nI (p + 1)))]) [1, 2, 3, 0] rfl ?_
          refine G.lve (lv' := [(0, .ref (o 0)), (1, .int (nI m)), (2, .int (s 1)), (3, .int (nI ((p + 1))))]) (by rfl) ?_
          exact ih33 (p + 1) (by omega) (by omega)
        refine G.iload_n hX 2 rfl dX4_introduce_39 ?_
        refine G.iload_n hX 3 rfl dX4_introduce_40 ?_
        refine G.ishr hX dX4_introduce_41 ?_
        refine G.iconst hX (v := 1) (by decide) dX4_introduce_42 ?_
        refine G.iand hX dX4_introduce_43 ?_
        refine G.if_ne hX (tgt := 69) (by decide) dX4_introduce_44 (fun c44 => ?_) (fun c44 => ?_)
        · refine G.we (ws' := [(o 0, moO o ik ((it (ms_inS s m) (p + 1) (-1, nI (ms_kh s m), s 1, s, ms_gs (ms_kh s m) s ge)).1) ((it (ms_inS s m) (p + 1) (-1, nI (ms_kh s m), s 1, s, ms_gs (ms_kh s m) s ge)).2.1) tp fr tq vl wr), (o 1, arI E 122 (upd s 1 (it (ms_inS s m) (p + 1) (-1, nI (ms_kh s m), s 1, s, ms_gs (ms_kh s m) s ge)).2.2.1)), (o 4, arI E 122 ((it (ms_inS s m) (p + 1) (-1, nI (ms_kh s m), s 1, s, ms_gs (ms_kh s m) s ge)).2.2.2.1)), (o 5, arI E 7 stt), (o 6, arI E 12 ((it (ms_inS s m) (p + 1) (-1, nI (ms_kh s m), s 1, s, ms_gs (ms_kh s m) s ge)).2.2.2.2))]) (by simp only [it_s]; simp only [ms_inS, c36, c44, ↓reduceIte]; first | done | rfl) ?_
          exact J69
        · refine G.aload_n hX 0 rfl dX4_introduce_47 ?_
          refine G.get hX inc_X4_introduce_4 0 rfl rfl 0 (by decide) (by decide +kernel) rfl dX4_introduce_48 ?_
          refine G.iconst hX (v := 1) (by decide) dX4_introduce_51 ?_
          refine G.iload_n hX 2 rfl dX4_introduce_52 ?_
          refine G.iconst hX (v := 1) (by decide) dX4_introduce_53 ?_
          refine G.iload_n hX 3 rfl dX4_introduce_54 ?_
          refine G.ishl hX dX4_introduce_55 ?_
          refine G.ior hX dX4_introduce_56 ?_
          refine G.iast hX (j := 1) (ws' := [(o 0, moO o ik ((it (ms_inS s m) p (-1, nI (ms_kh s m), s 1, s, ms_gs (ms_kh s m) s ge)).1) ((it (ms_inS s m) p (-1, nI (ms_kh s m), s 1, s, ms_gs (ms_kh s m) s ge)).2.1) tp fr tq vl wr), (o 1, arI E 122 (upd (upd s 1 (it (ms_inS s m) p (-1, nI (ms_kh s m), s 1, s, ms_gs (ms_kh s m) s ge)).2.2.1) 1 ((s 1) ||| (1 <<< ((nI p) &&& 31))))), (o 4, arI E 122 ((it (ms_inS s m) p (-1, nI (ms_kh s m), s 1, s, ms_gs (ms_kh s m) s ge)).2.2.2.1)), (o 5, arI E 7 stt), (o 6, arI E 12 ((it (ms_inS s m) p (-1, nI (ms_kh s m), s 1, s, ms_gs (ms_kh s m) s ge)).2.2.2.2))]) 1 rfl (by omega) (by omega) rfl rfl dX4_introduce_57 ?_
          refine G.we (ws' := [(o 0, moO o ik ((it (ms_inS s m) p (-1, nI (ms_kh s m), s 1, s, ms_gs (ms_kh s m) s ge)).1) ((it (ms_inS s m) p (-1, nI (ms_kh s m), s 1, s, ms_gs (ms_kh s m) s ge)).2.1) tp fr tq vl wr), (o 1, arI E 122 (ms_inZ s p)), (o 4, arI E 122 ((it (ms_inS s m) p (-1, nI (ms_kh s m), s 1, s, ms_gs (ms_kh s m) s ge)).2.2.2.1)), (o 5, arI E 7 stt), (o 6, arI E 12 ((it (ms_inS s m) p (-1, nI (ms_kh s m), s 1, s, ms_gs (ms_kh s m) s ge)).2.2.2.2))]) (by rw [upd2]; rfl) ?_
          refine G.aload_n hX 0 rfl dX4_introduce_58 ?_
          refine G.iload_n hX 3 rfl dX4_introduce_59 ?_
          refine G.aload_n hX 0 rfl dX4_introduce_60 ?_
          refine G.iconst hX (v := -1) (by decide) dX4_introduce_61 ?_
          refine G.iload_n hX 1 rfl dX4_introduce_62 ?_
          refine G.vi hX (As := [.int ((-1)), .int (nI m)]) (st := [.int (nI p), .ref (o 0)]) (wr := [(o 5, arI E 7 stt)]) (wf := [(o 0, moO o ik ((it (ms_inS s m) p (-1, nI (ms_kh s m), s 1, s, ms_gs (ms_kh s m) s ge)).1) ((it (ms_inS s m) p (-1, nI (ms_kh s m), s 1, s, ms_gs (ms_kh s m) s ge)).2.1) tp fr tq vl wr), (o 1, arI E 122 (ms_inZ s p)), (o 4, arI E 122 ((ms_inZ s p))), (o 5, arI E 7 stt), (o 6, arI E 12 (ms_gs (ms_kh (ms_inZ s p) m) (ms_inZ s p) ((it (ms_inS s m) p (-1, nI (ms_kh s m), s 1, s, ms_gs (ms_kh s m) s ge)).2.2.2.2)))]) (q0 := 0) (ci := 4) rfl rfl (c_X4_knownInh _ E (m := m) (o := o) (ik := ik) (be := (it (ms_inS s m) p (-1, nI (ms_kh s m), s 1, s, ms_gs (ms_kh s m) s ge)).1) (so := (it (ms_inS s m) p (-1, nI (ms_kh s m), s 1, s, ms_gs (ms_kh s m) s ge)).2.1) (tp := tp) (fr := fr) (tq := tq) (vl := vl) (wr := wr) (s := ms_inZ s p) (asd := (it (ms_inS s m) p (-1, nI (ms_kh s m), s 1, s, ms_gs (ms_kh s m) s ge)).2.2.2.1) (ge := (it (ms_inS s m) p (-1, nI (ms_kh s m), s 1, s, ms_gs (ms_kh s m) s ge)).2.2.2.2) (h1 := by omega)) gX4_introduce_X4_knownIn cp_X4_knownIn (by decide) [0, 1, 2, 4] [3] [1, 2, 3, 0, 4] ⟨rfl, rfl, by decide, rfl⟩ rfl rfl (Nat.le_of_ble_eq_true rfl) dX4_introduce_63 ?_
          refine G.vv hX (As := [.int (nI p), .int (nI (ms_kh (ms_inZ s p) m))]) (st := []) (wr := [(o 1, arI E 122 (ms_inZ s p)), (o 4, arI E 122 ((ms_inZ s p))), (o 5, arI E 7 stt), (o 6, arI E 12 (ms_gs (ms_kh (ms_inZ s p) m) (ms_inZ s p) ((it (ms_inS s m) p (-1, nI (ms_kh s m), s 1, s, ms_gs (ms_kh s m) s ge)).2.2.2.2)))]) (wf := [(o 0, moO o ik (trB ((it (ms_inS s m) p (-1, nI (ms_kh s m), s 1, s, ms_gs (ms_kh s m) s ge)).1) ((it (ms_inS s m) p (-1, nI (ms_kh s m), s 1, s, ms_gs (ms_kh s m) s ge)).2.1) (nI p) (nI (ms_kh (ms_inZ s p) m))) (trS ((it (ms_inS s m) p (-1, nI (ms_kh s m), s 1, s, ms_gs (ms_kh s m) s ge)).2.1) (nI (ms_kh (ms_inZ s p) m))) tp fr tq vl wr), (o 1, arI E 122 (ms_inZ s p)), (o 4, arI E 122 ((ms_inZ s p))), (o 5, arI E 7 stt), (o 6, arI E 12 (ms_gs (ms_kh (ms_inZ s p) m) (ms_inZ s p) ((it (ms_inS s m) p (-1, nI (ms_kh s m), s 1, s, ms_gs (ms_kh s m) s ge)).2.2.2.2)))]) (q0 := 0) (ci := 4) rfl rfl (c_X4_tries _ E (v := nI p) (w := nI (ms_kh (ms_inZ s p) m)) (o := o) (ik := ik) (be := (it (ms_inS s m) p (-1, nI (ms_kh s m), s 1, s, ms_gs (ms_kh s m) s ge)).1) (so := (it (ms_inS s m) p (-1, nI (ms_kh s m), s 1, s, ms_gs (ms_kh s m) s ge)).2.1) (tp := tp) (fr := fr) (tq := tq) (vl := vl) (wr := wr) ) gX4_introduce_X4_tries cp_X4_tries (by decide) [0] [1, 2, 3, 4] [4, 0, 1, 2, 3] ⟨rfl, rfl, by decide, rfl⟩ rfl rfl (Nat.le_of_ble_eq_true rfl) dX4_introduce_66 ?_
          refine G.we (ws' := [(o 0, moO o ik ((it (ms_inS s m) (p + 1) (-1, nI (ms_kh s m), s 1, s, ms_gs (ms_kh s m) s ge)).1) ((it (ms_inS s m) (p + 1) (-1, nI (ms_kh s m), s 1, s, ms_gs (ms_kh s m) s ge)).2.1) tp fr tq vl wr), (o 1, arI E 122 (upd s 1 (it (ms_inS s m) (p + 1) (-1, nI (ms_kh s m), s 1, s, ms_gs (ms_kh s m) s ge)).2.2.1)), (o 4, arI E 122 ((it (ms_inS s m) (p + 1) (-1, nI (ms_kh s m), s 1, s, ms_gs (ms_kh s m) s ge)).2.2.2.1)), (o 5, arI E 7 stt), (o 6, arI E 12 ((it (ms_inS s m) (p + 1) (-1, nI (ms_kh s m), s 1, s, ms_gs (ms_kh s m) s ge)).2.2.2.2))]) (by simp only [it_s]; simp only [ms_inS, c36, c44, ↓reduceIte]; first | done | rfl) ?_
          exact J69
  refine G.lvp (lv' := [(0, .ref (o 0)), (1, .int (nI m)), (2, .int (s 1)), (3, .int 0)]) [2, 3, 1, 0] rfl ?_
  refine G.lve (lv' := [(0, .ref (o 0)), (1, .int (nI m)), (2, .int (s 1)), (3, .int (nI 0))]) (by rfl) ?_
  refine G.we (ws' := [(o 0, moO o ik ((it (ms_inS s m) 0 (-1, nI (ms_kh s m), s 1, s, ms_gs (ms_kh s m) s ge)).1) ((it (ms_inS s m) 0 (-1, nI (ms_kh s m), s 1, s, ms_gs (ms_kh s m) s ge)).2.1) tp fr tq vl wr), (o 1, arI E 122 (upd s 1 (it (ms_inS s m) 0 (-1, nI (ms_kh s m), s 1, s, ms_gs (ms_kh s m) s ge)).2.2.1)), (o 4, arI E 122 ((it (ms_inS s m) 0 (-1, nI (ms_kh s m), s 1, s, ms_gs (ms_kh s m) s ge)).2.2.2.1)), (o 5, arI E 7 stt), (o 6, arI E 12 ((it (ms_inS s m) 0 (-1, nI (ms_kh s m), s 1, s, ms_gs (ms_kh s m) s ge)).2.2.2.2))]) (by rw [it_0, updS]) ?_
  exact L33 7 0 (by omega) (by omega)
set_option maxHeartbeats 4000000 in
set_option maxRecDepth 100000 in
theorem c_X4_introduceno (l : Launch) (E : EV) (m : Nat) (o : Nat → Nat) (ik : Int32) (be : Int32) (so : Int32) (tp : Int32) (fr : Int32) (tq : Int32) (vl : Int32) (wr : Int32) (s : Nat → Int32) (asd : Nat → Int32) (stt : Nat → Int32) (ge : Nat → Int32) (h1 : m < 8) (h2 : ¬ 0 ≤ (ms_in s m ge).1) : CI l yX4_introduce wsX4_introduce rmX4_introduce E [.ref (o 0), .int (nI m)] [(o 0, moO o ik be so tp fr tq vl wr), (o 1, arI E 122 s), (o 4, arI E 122 asd), (o 5, arI E 7 stt), (o 6, arI E 12 ge)] [(o 0, moO o ik ((ms_in s m ge).1) ((ms_in s m ge).2.1) tp fr tq vl wr), (o 1, arI E 122 s), (o 4, arI E 122 ((ms_in s m ge).2.2.2.1)), (o 5, arI E 7 (upd stt 3 (stt 3 + 1))), (o 6, arI E 12 ((ms_in s m ge).2.2.2.2))] ((-1000000004)) := by
  refine CI.of (own := RX4) (cc := cX4_introduce) (nL := 4) (rt := (some .int)) (by decide) rfl rfl (Nat.le_of_ble_eq_true rfl) (fun X hX hQ => ?_)
  show G E X 4 0 [(0, .ref (o 0)), (1, .int (nI m))] [] [(o 0, moO o ik be so tp fr tq vl wr), (o 1, arI E 122 s), (o 4, arI E 122 asd), (o 5, arI E 7 stt), (o 6, arI E 12 ge)]
  refine G.iload_n hX 1 rfl dX4_introduce_0 ?_
  refine G.s0i hX (As := [.int (nI m)]) (st := []) (c_X4_isMessagen _ E (x := m) (h1 := by omega)) gX4_introduce_X4_isMessage cp_X4_isMessage (by decide) rfl rfl (Nat.le_of_ble_eq_true rfl) dX4_introduce_1 ?_
  refine G.if_ne hX (tgt := 14) (by decide) dX4_introduce_4 (fun _ => ?_) (fun c4 => absurd c4 (by decide))
  refine G.aload_n hX 0 rfl dX4_introduce_14 ?_
  refine G.aload_n hX 0 rfl dX4_introduce_15 ?_
  refine G.iconst hX (v := -1) (by decide) dX4_introduce_16 ?_
  refine G.iload_n hX 1 rfl dX4_introduce_17 ?_
  refine G.vi hX (As := [.int ((-1)), .int (nI m)]) (st := [.ref (o 0)]) (wr := [(o 5, arI E 7 stt)]) (wf := [(o 0, moO o ik be so tp fr tq vl wr), (o 1, arI E 122 s), (o 4, arI E 122 s), (o 5, arI E 7 stt), (o 6, arI E 12 (ms_gs (ms_kh s m) s ge))]) (q0 := 0) (ci := 4) rfl rfl (c_X4_knownInh _ E (m := m) (o := o) (ik := ik) (be := be) (so := so) (tp := tp) (fr := fr) (tq := tq) (vl := vl) (wr := wr) (s := s) (asd := asd) (ge := ge) (h1 := by omega)) gX4_introduce_X4_knownIn cp_X4_knownIn (by decide) [0, 1, 2, 4] [3] [1, 2, 3, 0, 4] ⟨rfl, rfl, by decide, rfl⟩ rfl rfl (Nat.le_of_ble_eq_true rfl) dX4_introduce_18 ?_
  refine G.vv hX (As := [.int (nI (ms_kh s m))]) (st := []) (wr := [(o 1, arI E 122 s), (o 4, arI E 122 s), (o 5, arI E 7 stt), (o 6, arI E 12 (ms_gs (ms_kh s m) s ge))]) (wf := [(o 0, moO o ik ((-1)) ((nI (ms_kh s m))) tp fr tq vl wr), (o 1, arI E 122 s), (o 4, arI E 122 s), (o 5, arI E 7 stt), (o 6, arI E 12 (ms_gs (ms_kh s m) s ge))]) (q0 := 0) (ci := 4) rfl rfl (c_X4_begins _ E (v := nI (ms_kh s m)) (o := o) (ik := ik) (be := be) (so := so) (tp := tp) (fr := fr) (tq := tq) (vl := vl) (wr := wr) ) gX4_introduce_X4_begins cp_X4_begins (by decide) [0] [1, 2, 3, 4] [4, 0, 1, 2, 3] ⟨rfl, rfl, by decide, rfl⟩ rfl rfl (Nat.le_of_ble_eq_true rfl) dX4_introduce_21 ?_
  refine G.aload_n hX 0 rfl dX4_introduce_24 ?_
  refine G.get hX inc_X4_introduce_4 0 rfl rfl 0 (by decide) (by decide +kernel) rfl dX4_introduce_25 ?_
  refine G.iconst hX (v := 1) (by decide) dX4_introduce_28 ?_
  refine G.iald hX (j := 1) 1 rfl (by omega) (by omega) dX4_introduce_29 ?_
  refine G.istore_n hX (lv' := [(2, .int (s 1)), (0, .ref (o 0)), (1, .int (nI m))]) rfl (by decide) rfl dX4_introduce_30 ?_
  refine G.iconst hX (v := 0) (by decide) dX4_introduce_31 ?_
  refine G.istore_n hX (lv' := [(3, .int 0), (2, .int (s 1)), (0, .ref (o 0)), (1, .int (nI m))]) rfl (by decide) rfl dX4_introduce_32 ?_
  have L33 : ∀ (n : Nat) (p : Nat), p ≤ 6 → 7 ≤ p + n → G E X 4 33 [(0, .ref (o 0)), (1, .int (nI m)), (2, .int (s 1)), (3, .int (nI p))] [] [(o 0, moO o ik ((it (ms_inS s m) p (-1, nI (ms_kh s m), s 1, s, ms_gs (ms_kh s m) s ge)).1) ((it (ms_inS s m) p (-1, nI (ms_kh s m), s 1, s, ms_gs (ms_kh s m) s ge)).2.1) tp fr tq vl wr), (o 1, arI E 122 (upd s 1 (it (ms_inS s m) p (-1, nI (ms_kh s m), s 1, s, ms_gs (ms_kh s m) s ge)).2.2.1)), (o 4, arI E 122 ((it (ms_inS s m) p (-1, nI (ms_kh s m), s 1, s, ms_gs (ms_kh s m) s ge)).2.2.2.1)), (o 5, arI E 7 stt), (o 6, arI E 12 ((it (ms_inS s m) p (-1, nI (ms_kh s m), s 1, s, ms_gs (ms_kh s m) s ge)).2.2.2.2))] := by
    intro n
    induction n with
    | zero => intro p hl33_0 hl33_1; exact absurd hl33_1 (by omega)
    | succ n ih33 =>
      intro p hl33_0 hl33_1
      refine G.iload_n hX 3 rfl dX4_introduce_33 ?_
      refine G.bipush hX (v := 6) (by decide) dX4_introduce_34 ?_
      refine G.n_ge hX (a := p) (b := 6) (tgt := 75) (by omega) (by omega) (by decide) dX4_introduce_36 (fun c36 => ?_) (fun c36 => ?_)
      · obtain rfl : p = 6 := by omega
        refine G.aload_n hX 0 rfl dX4_introduce_75 ?_
        refine G.get hX inc_X4_introduce_4 0 rfl rfl 0 (by decide) (by decide +kernel) rfl dX4_introduce_76 ?_
        refine G.iconst hX (v := 1) (by decide) dX4_introduce_79 ?_
        refine G.iload_n hX 2 rfl dX4_introduce_80 ?_
        refine G.iast hX (j := 1) (ws' := [(o 0, moO o ik ((it (ms_inS s m) 6 (-1, nI (ms_kh s m), s 1, s, ms_gs (ms_kh s m) s ge)).1) ((it (ms_inS s m) 6 (-1, nI (ms_kh s m), s 1, s, ms_gs (ms_kh s m) s ge)).2.1) tp fr tq vl wr), (o 1, arI E 122 (upd (upd s 1 (it (ms_inS s m) 6 (-1, nI (ms_kh s m), s 1, s, ms_gs (ms_kh s m) s ge)).2.2.1) 1 (s 1))), (o 4, arI E 122 ((it (ms_inS s m) 6 (-1, nI (ms_kh s m), s 1, s, ms_gs (ms_kh s m) s ge)).2.2.2.1)), (o 5, arI E 7 stt), (o 6, arI E 12 ((it (ms_inS s m) 6 (-1, nI (ms_kh s m), s 1, s, ms_gs (ms_kh s m) s ge)).2.2.2.2))]) 1 rfl (by omega) (by omega) rfl rfl dX4_introduce_81 ?_
        refine G.we (ws' := [(o 0, moO o ik ((ms_in s m ge).1) ((ms_in s m ge).2.1) tp fr tq vl wr), (o 1, arI E 122 s), (o 4, arI E 122 ((ms_in s m ge).2.2.2.1)), (o 5, arI E 7 stt), (o 6, arI E 12 ((ms_in s m ge).2.2.2.2))]) (by rw [upd2, updS]; rfl) ?_
        refine G.aload_n hX 0 rfl dX4_introduce_82 ?_
        refine G.vi hX (As := []) (st := []) (wr := [(o 1, arI E 122 s), (o 4, arI E 122 ((ms_in s m ge).2.2.2.1)), (o 6, arI E 12 ((ms_in s m ge).2.2.2.2))]) (wf := [(o 0, moO o ik ((ms_in s m ge).1) ((ms_in s m ge).2.1) tp fr tq vl wr), (o 1, arI E 122 s), (o 4, arI E 122 ((ms_in s m ge).2.2.2.1)), (o 5, arI E 7 (upd stt 3 (stt 3 + 1))), (o 6, arI E 12 ((ms_in s m ge).2.2.2.2))]) (q0 := 0) (ci := 4) rfl rfl (c_X4_bestOrNoneno _ E (o := o) (ik := ik) (be := (ms_in s m ge).1) (so := (ms_in s m ge).2.1) (tp := tp) (fr := fr) (tq := tq) (vl := vl) (wr := wr) (stt := stt) (h1 := by omega)) gX4_introduce_X4_bestOrNone cp_X4_bestOrNone (by decide) [0, 3] [1, 2, 4] [3, 0, 1, 4, 2] ⟨rfl, rfl, by decide, rfl⟩ rfl rfl (Nat.le_of_ble_eq_true rfl) dX4_introduce_83 ?_
        exact G.iret hX hQ dX4_introduce_86 (by rfl) (by rfl)
      · have J69 : G E X 4 69 [(0, .ref (o 0)), (1, .int (nI m)), (2, .int (s 1)), (3, .int (nI p))] [] [(o 0, moO o ik ((it (ms_inS s m) (p + 1) (-1, nI (ms_kh s m), s 1, s, ms_gs (ms_kh s m) s ge)).1) ((it (ms_inS s m) (p + 1) (-1, nI (ms_kh s m), s 1, s, ms_gs (ms_kh s m) s ge)).2.1) tp fr tq vl wr), (o 1, arI E 122 (upd s 1 (it (ms_inS s m) (p + 1) (-1, nI (ms_kh s m), s 1, s, ms_gs (ms_kh s m) s ge)).2.2.1)), (o 4, arI E 122 ((it (ms_inS s m) (p + 1) (-1, nI (ms_kh s m), s 1, s, ms_gs (ms_kh s m) s ge)).2.2.2.1)), (o 5, arI E 7 stt), (o 6, arI E 12 ((it (ms_inS s m) (p + 1) (-1, nI (ms_kh s m), s 1, s, ms_gs (ms_kh s m) s ge)).2.2.2.2))] := by
          refine G.iinc hX (n := 1) (lv' := [(3, .int (nI (p + 1))), (0, .ref (o 0)), (1, .int (nI m)), (2, .int (s 1))]) 3 rfl (inc_nI p 1 rfl) (by decide) rfl dX4_introduce_69 ?_
          refine G.goto hX (tgt := 33) (by decide) dX4_introduce_72 ?_
          refine G.lvp (lv' := [(0, .ref (o 0)), (1, .int (nI m)), (2, .int (s 1)), (3, .int (nI (p + 1)))]) [1, 2, 3, 0] rfl ?_
          refine G.lve (lv' := [(0, .ref (o 0)), (1, .int (nI m)), (2, .int (s 1)), (3, .int (nI ((p + 1))))]) (by rfl) ?_
          exact ih33 (p + 1) (by omega) (by omega)
        refine G.iload_n hX 2 rfl dX4_introduce_39 ?_
        refine G.iload_n hX 3 rfl dX4_introduce_40 ?_
        refine G.ishr hX dX4_introduce_41 ?_
        refine G.iconst hX (v := 1) (by decide) dX4_introduce_42 ?_
        refine G.iand hX dX4_introduce_43 ?_
        refine G.if_ne hX (tgt := 69) (by decide) dX4_introduce_44 (fun c44 => ?_) (fun c44 => ?_)
        · refine G.we (ws' := [(o 0, moO o ik ((it (ms_inS s m) (p + 1) (-1, nI (ms_kh s m), s 1, s, ms_gs (ms_kh s m) s ge)).1) ((it (ms_inS s m) (p + 1) (-1, nI (ms_kh s m), s 1, s, ms_gs (ms_kh s m) s ge)).2.1) tp fr tq vl wr), (o 1, arI E 122 (upd s 1 (it (ms_inS s m) (p + 1) (-1, nI (ms_kh s m), s 1, s, ms_gs (ms_kh s m) s ge)).2.2.1)), (o 4, arI E 122 ((it (ms_inS s m) (p + 1) (-1, nI (ms_kh s m), s 1, s, ms_gs (ms_kh s m) s ge)).2.2.2.1)), (o 5, arI E 7 stt), (o 6, arI E 12 ((it (ms_inS s m) (p + 1) (-1, nI (ms_kh s m), s 1, s, ms_gs (ms_kh s m) s ge)).2.2.2.2))]) (by simp only [it_s]; simp only [ms_inS, c36, c44, ↓reduceIte]; first | done | rfl) ?_
          exact J69
        · refine G.aload_n hX 0 rfl dX4_introduce_47 ?_
          refine G.get hX inc_X4_introduce_4 0 rfl rfl 0 (by decide) (by decide +kernel) rfl dX4_introduce_48 ?_
          refine G.iconst hX (v := 1) (by decide) dX4_introduce_51 ?_
          refine G.iload_n hX 2 rfl dX4_introduce_52 ?_
          refine G.iconst hX (v := 1) (by decide) dX4_introduce_53 ?_
          refine G.iload_n hX 3 rfl dX4_introduce_54 ?_
          refine G.ishl hX dX4_introduce_55 ?_
          refine G.ior hX dX4_introduce_56 ?_
          refine G.iast hX (j := 1) (ws' := [(o 0, moO o ik ((it (ms_inS s m) p (-1, nI (ms_kh s m), s 1, s, ms_gs (ms_kh s m) s ge)).1) ((it (ms_inS s m) p (-1, nI (ms_kh s m), s 1, s, ms_gs (ms_kh s m) s ge)).2.1) tp fr tq vl wr), (o 1, arI E 122 (upd (upd s 1 (it (ms_inS s m) p (-1, nI (ms_kh s m), s 1, s, ms_gs (ms_kh s m) s ge)).2.2.1) 1 ((s 1) ||| (1 <<< ((nI p) &&& 31))))), (o 4, arI E 122 ((it (ms_inS s m) p (-1, nI (ms_kh s m), s 1, s, ms_gs (ms_kh s m) s ge)).2.2.2.1)), (o 5, arI E 7 stt), (o 6, arI E 12 ((it (ms_inS s m) p (-1, nI (ms_kh s m), s 1, s, ms_gs (ms_kh s m) s ge)).2.2.2.2))]) 1 rfl (by omega) (by omega) rfl rfl dX4_introduce_57 ?_
          refine G.we (ws' := [(o 0, moO o ik ((it (ms_inS s m) p (-1, nI (ms_kh s m), s 1, s, ms_gs (ms_kh s m) s ge)).1) ((it (ms_inS s m) p (-1, nI (ms_kh s m), s 1, s, ms_gs (ms_kh s m) s ge)).2.1) tp fr tq vl wr), (o 1, arI E 122 (ms_inZ s p)), (o 4, arI E 122 ((it (ms_inS s m) p (-1, nI (ms_kh s m), s 1, s, ms_gs (ms_kh s m) s ge)).2.2.2.1)), (o 5, arI E 7 stt), (o 6, arI E 12 ((it (ms_inS s m) p (-1, nI (ms_kh s m), s 1, s, ms_gs (ms_kh s m) s ge)).2.2.2.2))]) (by rw [upd2]; rfl) ?_
          refine G.aload_n hX 0 rfl dX4_introduce_58 ?_
          refine G.iload_n hX 3 rfl dX4_introduce_59 ?_
          refine G.aload_n hX 0 rfl dX4_introduce_60 ?_
          refine G.iconst hX (v := -1) (by decide) dX4_introduce_61 ?_
          refine G.iload_n hX 1 rfl dX4_introduce_62 ?_
          refine G.vi hX (As := [.int ((-1)), .int (nI m)]) (st := [.int (nI p), .ref (o 0)]) (wr := [(o 5, arI E 7 stt)]) (wf := [(o 0, moO o ik ((it (ms_inS s m) p (-1, nI (ms_kh s m), s 1, s, ms_gs (ms_kh s m) s ge)).1) ((it (ms_inS s m) p (-1, nI (ms_kh s m), s 1, s, ms_gs (ms_kh s m) s ge)).2.1) tp fr tq vl wr), (o 1, arI E 122 (ms_inZ s p)), (o 4, arI E 122 ((ms_inZ s p))), (o 5, arI E 7 stt), (o 6, arI E 12 (ms_gs (ms_kh (ms_inZ s p) m) (ms_inZ s p) ((it (ms_inS s m) p (-1, nI (ms_kh s m), s 1, s, ms_gs (ms_kh s m) s ge)).2.2.2.2)))]) (q0 := 0) (ci := 4) rfl rfl (c_X4_knownInh _ E (m := m) (o := o) (ik := ik) (be := (it (ms_inS s m) p (-1, nI (ms_kh s m), s 1, s, ms_gs (ms_kh s m) s ge)).1) (so := (it (ms_inS s m) p (-1, nI (ms_kh s m), s 1, s, ms_gs (ms_kh s m) s ge)).2.1) (tp := tp) (fr := fr) (tq := tq) (vl := vl) (wr := wr) (s := ms_inZ s p) (asd := (it (ms_inS s m) p (-1, nI (ms_kh s m), s 1, s, ms_gs (ms_kh s m) s ge)).2.2.2.1) (ge := (it (ms_inS s m) p (-1, nI (ms_kh s m), s 1, s, ms_gs (ms_kh s m) s ge)).2.2.2.2) (h1 := by omega)) gX4_introduce_X4_knownIn cp_X4_knownIn (by decide) [0, 1, 2, 4] [3] [1, 2, 3, 0, 4] ⟨rfl, rfl, by decide, rfl⟩ rfl rfl (Nat.le_of_ble_eq_true rfl) dX4_introduce_63 ?_
          refine G.vv hX (As := [.int (nI p), .int (nI (ms_kh (ms_inZ s p) m))]) (st := []) (wr := [(o 1, arI E 122 (ms_inZ s p)), (o 4, arI E 122 ((ms_inZ s p))), (o 5, arI E 7 stt), (o 6, arI E 12 (ms_gs (ms_kh (ms_inZ s p) m) (ms_inZ s p) ((it (ms_inS s m) p (-1, nI (ms_kh s m), s 1, s, ms_gs (ms_kh s m) s ge)).2.2.2.2)))]) (wf := [(o 0, moO o ik (trB ((it (ms_inS s m) p (-1, nI (ms_kh s m), s 1, s, ms_gs (ms_kh s m) s ge)).1) ((it (ms_inS s m) p (-1, nI (ms_kh s m), s 1, s, ms_gs (ms_kh s m) s ge)).2.1) (nI p) (nI (ms_kh (ms_inZ s p) m))) (trS ((it (ms_inS s m) p (-1, nI (ms_kh s m), s 1, s, ms_gs (ms_kh s m) s ge)).2.1) (nI (ms_kh (ms_inZ s p) m))) tp fr tq vl wr), (o 1, arI E 122 (ms_inZ s p)), (o 4, arI E 122 ((ms_inZ s p))), (o 5, arI E 7 stt), (o 6, arI E 12 (ms_gs (ms_kh (ms_inZ s p) m) (ms_inZ s p) ((it (ms_inS s m) p (-1, nI (ms_kh s m), s 1, s, ms_gs (ms_kh s m) s ge)).2.2.2.2)))]) (q0 := 0) (ci := 4) rfl rfl (c_X4_tries _ E (v := nI p) (w := nI (ms_kh (ms_inZ s p) m)) (o := o) (ik := ik) (be := (it (ms_inS s m) p (-1, nI (ms_kh s m), s 1, s, ms_gs (ms_kh s m) s ge)).1) (so := (it (ms_inS s m) p (-1, nI (ms_kh s m), s 1, s, ms_gs (ms_kh s m) s ge)).2.1) (tp := tp) (fr := fr) (tq := tq) (vl := vl) (wr := wr) ) gX4_introduce_X4_tries cp_X4_tries (by decide) [0] [1, 2, 3, 4] [4, 0, 1, 2, 3] ⟨rfl, rfl, by decide, rfl⟩ rfl rfl (Nat.le_of_ble_eq_true rfl) dX4_introduce_66 ?_
          refine G.we (ws' := [(o 0, moO o ik ((it (ms_inS s m) (p + 1) (-1, nI (ms_kh s m), s 1, s, ms_gs (ms_kh s m) s ge)).1) ((it (ms_inS s m) (p + 1) (-1, nI (ms_kh s m), s 1, s, ms_gs (ms_kh s m) s ge)).2.1) tp fr tq vl wr), (o 1, arI E 122 (upd s 1 (it (ms_inS s m) (p + 1) (-1, nI (ms_kh s m), s 1, s, ms_gs (ms_kh s m) s ge)).2.2.1)), (o 4, arI E 122 ((it (ms_inS s m) (p + 1) (-1, nI (ms_kh s m), s 1, s, ms_gs (ms_kh s m) s ge)).2.2.2.1)), (o 5, arI E 7 stt), (o 6, arI E 12 ((it (ms_inS s m) (p + 1) (-1, nI (ms_kh s m), s 1, s, ms_gs (ms_kh s m) s ge)).2.2.2.2))]) (by simp only [it_s]; simp only [ms_inS, c36, c44, ↓reduceIte]; first | done | rfl) ?_
          exact J69
  refine G.lvp (lv' := [(0, .ref (o 0)), (1, .int (nI m)), (2, .int (s 1)), (3, .int 0)]) [2, 3, 1, 0] rfl ?_
  refine G.lve (lv' := [(0, .ref (o 0)), (1, .int (nI m)), (2, .int (s 1)), (3, .int (nI 0))]) (by rfl) ?_
  refine G.we (ws' := [(o 0, moO o ik ((it (ms_inS s m) 0 (-1, nI (ms_kh s m), s 1, s, ms_gs (ms_kh s m) s ge)).1) ((it (ms_inS s m) 0 (-1, nI (ms_kh s m), s 1, s, ms_gs (ms_kh s m) s ge)).2.1) tp fr tq vl wr), (o 1, arI E 122 (upd s 1 (it (ms_inS s m) 0 (-1, nI (ms_kh s m), s 1, s, ms_gs (ms_kh s m) s ge)).2.2.1)), (o 4, arI E 122 ((it (ms_inS s m) 0 (-1, nI (ms_kh s m), s 1, s, ms_gs (ms_kh s m) s ge)).2.2.2.1)), (o 5, arI E 7 stt), (o 6, arI E 12 ((it (ms_inS s m) 0 (-1, nI (ms_kh s m), s 1, s, ms_gs (ms_kh s m) s ge)).2.2.2.2))]) (by rw [it_0, updS]) ?_
  exact L33 7 0 (by omega) (by omega)
abbrev rmX4_lime : Room := { frames := 8, cells := 0, slots := 0, locals := 180 }
theorem cp_X4_lime : CP yX4_lime RX4 wsX4_lime 4 1 rmX4_lime := ⟨⟨_, _, _, rfl⟩, rfl, rfl, by decide +kernel⟩
theorem inc_X4_lime_4 : ∀ w ∈ u_ws RX4 TX4 19, w ∈ wsX4_lime := by decide +kernel
set_option maxHeartbeats 4000000 in
set_option maxRecDepth 100000 in
theorem c_X4_limebad (l : Launch) (E : EV) (x : Int32) (o : Nat → Nat) (ik : Int32) (be : Int32) (so : Int32) (tp : Int32) (fr : Int32) (tq : Int32) (vl : Int32) (wr : Int32) (stt : Nat → Int32) (h1 : inI x 0 7 = false) : CI l yX4_lime wsX4_lime rmX4_lime E [.ref (o 0), .int x] [(o 0, moO o ik be so tp fr tq vl wr), (o 5, arI E 7 stt)] [(o 0, moO o ik be so tp fr tq vl wr), (o 5, arI E 7 (upd stt 0 (stt 0 + 1)))] ((-1000000001)) := by
  refine CI.of (own := RX4) (cc := cX4_lime) (nL := 4) (rt := (some .int)) (by decide) rfl rfl (Nat.le_of_ble_eq_true rfl) (fun X hX hQ => ?_)
  show G E X 4 0 [(0, .ref (o 0)), (1, .int x)] [] [(o 0, moO o ik be so tp fr tq vl wr), (o 5, arI E 7 stt)]
  refine G.iload_n hX 1 rfl dX4_lime_0 ?_
  refine G.s0i hX (As := [.int x]) (st := []) (c_X4_isMessage _ E (x := x) ) gX4_lime_X4_isMessage cp_X4_isMessage (by decide) rfl rfl (Nat.le_of_ble_eq_true rfl) dX4_lime_1 ?_
  refine G.b_ne hX (tgt := 14) (by decide) dX4_lime_4 (fun c4 => ?_) (fun c4 => ?_)
  · exact absurd h1 (by simp [c4])
  · refine G.aload_n hX 0 rfl dX4_lime_7 ?_
    refine G.ldc hX (v := -1000000001) (by decide +kernel) dX4_lime_8 ?_
    refine G.vi hX (As := [.int ((-1000000001))]) (st := []) (wr := []) (wf := [(o 0, moO o ik be so tp fr tq vl wr), (o 5, arI E 7 (upd stt 0 (stt 0 + 1)))]) (q0 := 0) (ci := 4) rfl rfl (c_X4_finds0 _ E (o := o) (ik := ik) (be := be) (so := so) (tp := tp) (fr := fr) (tq := tq) (vl := vl) (wr := wr) (stt := stt) ) gX4_lime_X4_finds cp_X4_finds (by decide) [0, 1] [] [0, 1] ⟨rfl, rfl, by decide, rfl⟩ rfl rfl (Nat.le_of_ble_eq_true rfl) dX4_lime_10 ?_
    exact G.iret hX hQ dX4_lime_13 (by rfl) (by rfl)
set_option maxHeartbeats 4000000 in
set_option maxRecDepth 100000 in
theorem c_X4_limeok (l : Launch) (E : EV) (m : Nat) (o : Nat → Nat) (ik : Int32) (be : Int32) (so : Int32) (tp : Int32) (fr : Int32) (tq : Int32) (vl : Int32) (wr : Int32) (s : Nat → Int32) (asd : Nat → Int32) (stt : Nat → Int32) (ge : Nat → Int32) (h1 : m < 8) (h2 : 0 ≤ (ms_li s m ge).1) : CI l yX4_lime wsX4_lime rmX4_lime E [.ref (o 0), .int (nI m)] [(o 0, moO o ik be so tp fr tq vl wr), (o 1, arI E 122 s), (o 4, arI E 122 asd), (o 5, arI E 7 stt), (o 6, arI E 12 ge)] [(o 0, moO o ik ((ms_li s m ge).1) ((ms_li s m ge).2.1) tp fr tq vl wr), (o 1, arI E 122 s), (o 4, arI E 122 ((ms_li s m ge).2.2.1)), (o 5, arI E 7 stt), (o 6, arI E 12 ((ms_li s m ge).2.2.2))] ((ms_li s m ge).1) := by
  refine CI.of (own := RX4) (cc := cX4_lime) (nL := 4) (rt := (some .int)) (by decide) rfl rfl (Nat.le_of_ble_eq_true rfl) (fun X hX hQ => ?_)
  show G E X 4 0 [(0, .ref (o 0)), (1, .int (nI m))] [] [(o 0, moO o ik be so tp fr tq vl wr), (o 1, arI E 122 s), (o 4, arI E 122 asd), (o 5, arI E 7 stt), (o 6, arI E 12 ge)]
  refine G.iload_n hX 1 rfl dX4_lime_0 ?_
  refine G.s0i hX (As := [.int (nI m)]) (st := []) (c_X4_isMessagen _ E (x := m) (h1 := by omega)) gX4_lime_X4_isMessage cp_X4_isMessage (by decide) rfl rfl (Nat.le_of_ble_eq_true rfl) dX4_lime_1 ?_
  refine G.if_ne hX (tgt := 14) (by decide) dX4_lime_4 (fun _ => ?_) (fun c4 => absurd c4 (by decide))
  refine G.aload_n hX 0 rfl dX4_lime_14 ?_
  refine G.aload_n hX 0 rfl dX4_lime_15 ?_
  refine G.iconst hX (v := -1) (by decide) dX4_lime_16 ?_
  refine G.iload_n hX 1 rfl dX4_lime_17 ?_
  refine G.vi hX (As := [.int ((-1)), .int (nI m)]) (st := [.ref (o 0)]) (wr := [(o 5, arI E 7 stt)]) (wf := [(o 0, moO o ik be so tp fr tq vl wr), (o 1, arI E 122 s), (o 4, arI E 122 s), (o 5, arI E 7 stt), (o 6, arI E 12 (ms_gs (ms_kh s m) s ge))]) (q0 := 0) (ci := 4) rfl rfl (c_X4_knownInh _ E (m := m) (o := o) (ik := ik) (be := be) (so := so) (tp := tp) (fr := fr) (tq := tq) (vl := vl) (wr := wr) (s := s) (asd := asd) (ge := ge) (h1 := by omega)) gX4_lime_X4_knownIn cp_X4_knownIn (by decide) [0, 1, 2, 4] [3] [1, 2, 3, 0, 4] ⟨rfl, rfl, by decide, rfl⟩ rfl rfl (Nat.le_of_ble_eq_true rfl) dX4_lime_18 ?_
  refine G.vv hX (As := [.int (nI (ms_kh s m))]) (st := []) (wr := [(o 1, arI E 122 s), (o 4, arI E 122 s), (o 5, arI E 7 stt), (o 6, arI E 12 (ms_gs (ms_kh s m) s ge))]) (wf := [(o 0, moO o ik ((-1)) ((nI (ms_kh s m))) tp fr tq vl wr), (o 1, arI E 122 s), (o 4, arI E 122 s), (o 5, arI E 7 stt), (o 6, arI E 12 (ms_gs (ms_kh s m) s ge))]) (q0 := 0) (ci := 4) rfl rfl (c_X4_begins _ E (v := nI (ms_kh s m)) (o := o) (ik := ik) (be := be) (so := so) (tp := tp) (fr := fr) (tq := tq) (vl := vl) (wr := wr) ) gX4_lime_X4_begins cp_X4_begins (by decide) [0] [1, 2, 3, 4] [4, 0, 1, 2, 3] ⟨rfl, rfl, by decide, rfl⟩ rfl rfl (Nat.le_of_ble_eq_true rfl) dX4_lime_21 ?_
  refine G.iconst hX (v := 0) (by decide) dX4_lime_24 ?_
  refine G.istore_n hX (lv' := [(2, .int 0), (0, .ref (o 0)), (1, .int (nI m))]) rfl (by decide) rfl dX4_lime_25 ?_
  have L26 : ∀ (n : Nat) (t : Nat), t ≤ 12 → 13 ≤ t + n → G E X 4 26 [(0, .ref (o 0)), (1, .int (nI m)), (2, .int (nI t))] [] [(o 0, moO o ik ((it (ms_liS s m) t (-1, nI (ms_kh s m), s, ms_gs (ms_kh s m) s ge)).1) ((it (ms_liS s m) t (-1, nI (ms_kh s m), s, ms_gs (ms_kh s m) s ge)).2.1) tp fr tq vl wr), (o 1, arI E 122 s), (o 4, arI E 122 ((it (ms_liS s m) t (-1, nI (ms_kh s m), s, ms_gs (ms_kh s m) s ge)).2.2.1)), (o 5, arI E 7 stt), (o 6, arI E 12 ((it (ms_liS s m) t (-1, nI (ms_kh s m), s, ms_gs (ms_kh s m) s ge)).2.2.2))] := by
    intro n
    induction n with
    | zero => intro t hl26_0 hl26_1; exact absurd hl26_1 (by omega)
    | succ n ih26 =>
      intro t hl26_0 hl26_1
      refine G.iload_n hX 2 rfl dX4_lime_26 ?_
      refine G.bipush hX (v := 12) (by decide) dX4_lime_27 ?_
      refine G.n_ge hX (a := t) (b := 12) (tgt := 75) (by omega) (by omega) (by decide) dX4_lime_29 (fun c29 => ?_) (fun c29 => ?_)
      · obtain rfl : t = 12 := by omega
        refine G.we (ws' := [(o 0, moO o ik ((ms_li s m ge).1) ((ms_li s m ge).2.1) tp fr tq vl wr), (o 1, arI E 122 s), (o 4, arI E 122 ((ms_li s m ge).2.2.1)), (o 5, arI E 7 stt), (o 6, arI E 12 ((ms_li s m ge).2.2.2))]) (by rfl) ?_
        refine G.aload_n hX 0 rfl dX4_lime_75 ?_
        refine G.vi hX (As := []) (st := []) (wr := [(o 1, arI E 122 s), (o 4, arI E 122 ((ms_li s m ge).2.2.1)), (o 5, arI E 7 stt), (o 6, arI E 12 ((ms_li s m ge).2.2.2))]) (wf := [(o 0, moO o ik ((ms_li s m ge).1) ((ms_li s m ge).2.1) tp fr tq vl wr), (o 1, arI E 122 s), (o 4, arI E 122 ((ms_li s m ge).2.2.1)), (o 5, arI E 7 stt), (o 6, arI E 12 ((ms_li s m ge).2.2.2))]) (q0 := 0) (ci := 4) rfl rfl (c_X4_bestOrNoneok _ E (o := o) (ik := ik) (be := (ms_li s m ge).1) (so := (ms_li s m ge).2.1) (tp := tp) (fr := fr) (tq := tq) (vl := vl) (wr := wr) (h1 := by omega)) gX4_lime_X4_bestOrNone cp_X4_bestOrNone (by decide) [0] [1, 2, 3, 4] [4, 0, 1, 2, 3] ⟨rfl, rfl, by decide, rfl⟩ rfl rfl (Nat.le_of_ble_eq_true rfl) dX4_lime_76 ?_
        exact G.iret hX hQ dX4_lime_79 (by first | rfl | (simp only [c29, ↓reduceIte, Bool.not_true, Bool.not_false, Bool.and_true, Bool.true_and, Bool.and_false, Bool.false_and, Bool.or_true, Bool.true_or, Bool.or_false, Bool.false_or, decide_true, decide_false, not_true_eq_false, not_false_eq_true, Bool.false_eq_true, Bool.true_eq_false]; done) | (simp only [c29, ↓reduceIte, Bool.not_true, Bool.not_false, Bool.and_true, Bool.true_and, Bool.and_false, Bool.false_and, Bool.or_true, Bool.true_or, Bool.or_false, Bool.false_or, decide_true, decide_false, not_true_eq_false, not_false_eq_true, Bool.false_eq_true, Bool.true_eq_false]; rfl) | (simp [c29]; done)) (by rfl)
      · refine G.aload_n hX 0 rfl dX4_lime_32 ?_
        refine G.iload_n hX 2 rfl dX4_lime_33 ?_
        refine G.iconst hX (v := 0) (by decide) dX4_lime_34 ?_
        refine G.s0i hX (As := [.int (nI t), .int 0]) (st := [.ref (o 0)]) (c_X4_spotOf _ E (t := t) (w := 0) ) gX4_lime_X4_spotOf cp_X4_spotOf (by decide) rfl rfl (Nat.le_of_ble_eq_true rfl) dX4_lime_35 ?_
        refine G.ie (y := nI (2 + 10 * t)) rfl ?_
        refine G.iconst hX (v := 0) (by decide) dX4_lime_38 ?_
        refine G.vi hX (As := [.int (nI (2 + 10 * t)), .int 0]) (st := []) (wr := [(o 4, arI E 122 ((it (ms_liS s m) t (-1, nI (ms_kh s m), s, ms_gs (ms_kh s m) s ge)).2.2.1)), (o 5, arI E 7 stt), (o 6, arI E 12 ((it (ms_liS s m) t (-1, nI (ms_kh s m), s, ms_gs (ms_kh s m) s ge)).2.2.2))]) (wf := [(o 0, moO o ik ((it (ms_liS s m) t (-1, nI (ms_kh s m), s, ms_gs (ms_kh s m) s ge)).1) ((it (ms_liS s m) t (-1, nI (ms_kh s m), s, ms_gs (ms_kh s m) s ge)).2.1) tp fr tq vl wr), (o 1, arI E 122 (upd s (2 + 10 * t) 0)), (o 4, arI E 122 ((it (ms_liS s m) t (-1, nI (ms_kh s m), s, ms_gs (ms_kh s m) s ge)).2.2.1)), (o 5, arI E 7 stt), (o 6, arI E 12 ((it (ms_liS s m) t (-1, nI (ms_kh s m), s, ms_gs (ms_kh s m) s ge)).2.2.2))]) (q0 := 0) (ci := 4) rfl rfl (c_X4_becomes _ E (w := 2 + 10 * t) (v := 0) (o := o) (ik := ik) (be := (it (ms_liS s m) t (-1, nI (ms_kh s m), s, ms_gs (ms_kh s m) s ge)).1) (so := (it (ms_liS s m) t (-1, nI (ms_kh s m), s, ms_gs (ms_kh s m) s ge)).2.1) (tp := tp) (fr := fr) (tq := tq) (vl := vl) (wr := wr) (s := s) (h1 := by omega)) gX4_lime_X4_becomes cp_X4_becomes (by decide) [0, 1] [2, 3, 4] [3, 4, 0, 1, 2] ⟨rfl, rfl, by decide, rfl⟩ rfl rfl (Nat.le_of_ble_eq_true rfl) dX4_lime_39 ?_
        refine G.we (ws' := [(o 0, moO o ik ((it (ms_liS s m) t (-1, nI (ms_kh s m), s, ms_gs (ms_kh s m) s ge)).1) ((it (ms_liS s m) t (-1, nI (ms_kh s m), s, ms_gs (ms_kh s m) s ge)).2.1) tp fr tq vl wr), (o 1, arI E 122 (ms_liZ s t)), (o 4, arI E 122 ((it (ms_liS s m) t (-1, nI (ms_kh s m), s, ms_gs (ms_kh s m) s ge)).2.2.1)), (o 5, arI E 7 stt), (o 6, arI E 12 ((it (ms_liS s m) t (-1, nI (ms_kh s m), s, ms_gs (ms_kh s m) s ge)).2.2.2))]) (by rfl) ?_
        refine G.istore_n hX (lv' := [(3, .int (s (2 + 10 * t))), (0, .ref (o 0)), (1, .int (nI m)), (2, .int (nI t))]) rfl (by decide) rfl dX4_lime_42 ?_
        have J58 : G E X 4 58 [(0, .ref (o 0)), (1, .int (nI m)), (2, .int (nI t)), (3, .int (s (2 + 10 * t)))] [] [(o 0, moO o ik ((it (ms_liS s m) (t + 1) (-1, nI (ms_kh s m), s, ms_gs (ms_kh s m) s ge)).1) ((it (ms_liS s m) (t + 1) (-1, nI (ms_kh s m), s, ms_gs (ms_kh s m) s ge)).2.1) tp fr tq vl wr), (o 1, arI E 122 (ms_liZ s t)), (o 4, arI E 122 ((it (ms_liS s m) (t + 1) (-1, nI (ms_kh s m), s, ms_gs (ms_kh s m) s ge)).2.2.1)), (o 5, arI E 7 stt), (o 6, arI E 12 ((it (ms_liS s m) (t + 1) (-1, nI (ms_kh s m), s, ms_gs (ms_kh s m) s ge)).2.2.2))] := by
          refine G.aload_n hX 0 rfl dX4_lime_58 ?_
          refine G.get hX inc_X4_lime_4 0 rfl rfl 0 (by decide) (by decide +kernel) rfl dX4_lime_59 ?_
          refine G.iload_n hX 2 rfl dX4_lime_62 ?_
          refine G.iconst hX (v := 0) (by decide) dX4_lime_63 ?_
          refine G.s0i hX (As := [.int (nI t), .int 0]) (st := [.ref (o 1)]) (c_X4_spotOf _ E (t := t) (w := 0) ) gX4_lime_X4_spotOf cp_X4_spotOf (by decide) rfl rfl (Nat.le_of_ble_eq_true rfl) dX4_lime_64 ?_
          refine G.ie (y := nI (2 + 10 * t)) rfl ?_
          refine G.iload_n hX 3 rfl dX4_lime_67 ?_
          refine G.iast hX (j := 2 + 10 * t) (ws' := [(o 0, moO o ik ((it (ms_liS s m) (t + 1) (-1, nI (ms_kh s m), s, ms_gs (ms_kh s m) s ge)).1) ((it (ms_liS s m) (t + 1) (-1, nI (ms_kh s m), s, ms_gs (ms_kh s m) s ge)).2.1) tp fr tq vl wr), (o 1, arI E 122 (upd (ms_liZ s t) (2 + 10 * t) (s (2 + 10 * t)))), (o 4, arI E 122 ((it (ms_liS s m) (t + 1) (-1, nI (ms_kh s m), s, ms_gs (ms_kh s m) s ge)).2.2.1)), (o 5, arI E 7 stt), (o 6, arI E 12 ((it (ms_liS s m) (t + 1) (-1, nI (ms_kh s m), s, ms_gs (ms_kh s m) s ge)).2.2.2))]) 1 rfl (by omega) (by omega) rfl rfl dX4_lime_68 ?_
          refine G.we (ws' := [(o 0, moO o ik ((it (ms_liS s m) (t + 1) (-1, nI (ms_kh s m), s, ms_gs (ms_kh s m) s ge)).1) ((it (ms_liS s m) (t + 1) (-1, nI (ms_kh s m), s, ms_gs (ms_kh s m) s ge)).2.1) tp fr tq vl wr), (o 1, arI E 122 s), (o 4, arI E 122 ((it (ms_liS s m) (t + 1) (-1, nI (ms_kh s m), s, ms_gs (ms_kh s m) s ge)).2.2.1)), (o 5, arI E 7 stt), (o 6, arI E 12 ((it (ms_liS s m) (t + 1) (-1, nI (ms_kh s m), s, ms_gs (ms_kh s m) s ge)).2.2.2))]) (by rw [ms_liZ, upd2, updS]) ?_
          refine G.iinc hX (n := 1) (lv' := [(2, .int (nI (t + 1))), (0, .ref (o 0)), (1, .int (nI m)), (3, .int (s (2 + 10 * t)))]) 2 rfl (inc_nI t 1 rfl) (by decide) rfl dX4_lime_69 ?_
          refine G.goto hX (tgt := 26) (by decide) dX4_lime_72 ?_
          refine G.lvp (lv' := [(0, .ref (o 0)), (1, .int (nI m)), (2, .int (nI (t + 1)))]) [1, 2, 0] rfl ?_
          refine G.lve (lv' := [(0, .ref (o 0)), (1, .int (nI m)), (2, .int (nI ((t + 1))))]) (by rfl) ?_
          exact ih26 (t + 1) (by omega) (by omega)
        refine G.iload_n hX 0 rfl dX4_lime_43 ?_
        refine G.if_eq hX (tgt := 58) (by decide) dX4_lime_44 (fun c44 => ?_) (fun c44 => ?_)
        · refine G.lvp (lv' := [(0, .ref (o 0)), (1, .int (nI m)), (2, .int (nI t)), (3, .int (s (2 + 10 * t)))]) [1, 2, 3, 0] rfl ?_
          refine G.we (ws' := [(o 0, moO o ik ((it (ms_liS s m) (t + 1) (-1, nI (ms_kh s m), s, ms_gs (ms_kh s m) s ge)).1) ((it (ms_liS s m) (t + 1) (-1, nI (ms_kh s m), s, ms_gs (ms_kh s m) s ge)).2.1) tp fr tq vl wr), (o 1, arI E 122 (ms_liZ s t)), (o 4, arI E 122 ((it (ms_liS s m) (t + 1) (-1, nI (ms_kh s m), s, ms_gs (ms_kh s m) s ge)).2.2.1)), (o 5, arI E 7 stt), (o 6, arI E 12 ((it (ms_liS s m) (t + 1) (-1, nI (ms_kh s m), s, ms_gs (ms_kh s m) s ge)).2.2.2))]) (by simp only [it_s]; simp only [ms_liS, c29, c44, ↓reduceIte]; first | done | rfl) ?_
          exact J58
        · refine G.aload_n hX 1 rfl dX4_lime_47 ?_
          refine G.iload_n hX 3 rfl dX4_lime_48 ?_
          refine G.aload_n hX 1 rfl dX4_lime_49 ?_
          refine G.iconst hX (v := -1) (by decide) dX4_lime_50 ?_
          refine G.iload_n hX 2 rfl dX4_lime_51 ?_
          refine G.vi hX (As := [.int ((-1)), .int (nI m)]) (st := [.int (nI t), .ref (o 0)]) (wr := [(o 5, arI E 7 stt)]) (wf := [(o 0, moO o ik ((it (ms_liS s m) t (-1, nI (ms_kh s m), s, ms_gs (ms_kh s m) s ge)).1) ((it (ms_liS s m) t (-1, nI (ms_kh s m), s, ms_gs (ms_kh s m) s ge)).2.1) tp fr tq vl wr), (o 1, arI E 122 (ms_liZ s t)), (o 4, arI E 122 ((ms_liZ s t))), (o 5, arI E 7 stt), (o 6, arI E 12 (ms_gs (ms_kh (ms_liZ s t) m) (ms_liZ s t) ((it (ms_liS s m) t (-1, nI (ms_kh s m), s, ms_gs (ms_kh s m) s ge)).2.2.2)))]) (q0 := 0) (ci := 4) rfl rfl (c_X4_knownInh _ E (m := m) (o := o) (ik := ik) (be := (it (ms_liS s m) t (-1, nI (ms_kh s m), s, ms_gs (ms_kh s m) s ge)).1) (so := (it (ms_liS s m) t (-1, nI (ms_kh s m), s, ms_gs (ms_kh s m) s ge)).2.1) (tp := tp) (fr := fr) (tq := tq) (vl := vl) (wr := wr) (s := ms_liZ s t) (asd := (it (ms_liS s m) t (-1, nI (ms_kh s m), s, ms_gs (ms_kh s m) s ge)).2.2.1) (ge := (it (ms_liS s m) t (-1, nI (ms_kh s m), s, ms_gs (ms_kh s m) s ge)).2.2.2) (h1 := by omega)) gX4_lime_X4_knownIn cp_X4_knownIn (by decide) [0, 1, 2, 4] [3] [1, 2, 3, 0, 4] ⟨rfl, rfl, by decide, rfl⟩ rfl rfl (Nat.le_of_ble_eq_true rfl) dX4_lime_52 ?_
          refine G.vv hX (As := [.int (nI t), .int (nI (ms_kh (ms_liZ s t) m))]) (st := []) (wr := [(o 1, arI E 122 (ms_liZ s t)), (o 4, arI E 122 ((ms_liZ s t))), (o 5, arI E 7 stt), (o 6, arI E 12 (ms_gs (ms_kh (ms_liZ s t) m) (ms_liZ s t) ((it (ms_liS s m) t (-1, nI (ms_kh s m), s, ms_gs (ms_kh s m) s ge)).2.2.2)))]) (wf := [(o 0, moO o ik (trB ((it (ms_liS s m) t (-1, nI (ms_kh s m), s, ms_gs (ms_kh s m) s ge)).1) ((it (ms_liS s m) t (-1, nI (ms_kh s m), s, ms_gs (ms_kh s m) s ge)).2.1) (nI t) (nI (ms_kh (ms_liZ s t) m))) (trS ((it (ms_liS s m) t (-1, nI (ms_kh s m), s, ms_gs (ms_kh s m) s ge)).2.1) (nI (ms_kh (ms_liZ s t) m))) tp fr tq vl wr), (o 1, arI E 122 (ms_liZ s t)), (o 4, arI E 122 ((ms_liZ s t))), (o 5, arI E 7 stt), (o 6, arI E 12 (ms_gs (ms_kh (ms_liZ s t) m) (ms_liZ s t) ((it (ms_liS s m) t (-1, nI (ms_kh s m), s, ms_gs (ms_kh s m) s ge)).2.2.2)))]) (q0 := 0) (ci := 4) rfl rfl (c_X4_tries _ E (v := nI t) (w := nI (ms_kh (ms_liZ s t) m)) (o := o) (ik := ik) (be := (it (ms_liS s m) t (-1, nI (ms_kh s m), s, ms_gs (ms_kh s m) s ge)).1) (so := (it (ms_liS s m) t (-1, nI (ms_kh s m), s, ms_gs (ms_kh s m) s ge)).2.1) (tp := tp) (fr := fr) (tq := tq) (vl := vl) (wr := wr) ) gX4_lime_X4_tries cp_X4_tries (by decide) [0] [1, 2, 3, 4] [4, 0, 1, 2, 3] ⟨rfl, rfl, by decide, rfl⟩ rfl rfl (Nat.le_of_ble_eq_true rfl) dX4_lime_55 ?_
          refine G.lvp (lv' := [(0, .ref (o 0)), (1, .int (nI m)), (2, .int (nI t)), (3, .int (s (2 + 10 * t)))]) [1, 2, 3, 0] rfl ?_
          refine G.we (ws' := [(o 0, moO o ik ((it (ms_liS s m) (t + 1) (-1, nI (ms_kh s m), s, ms_gs (ms_kh s m) s ge)).1) ((it (ms_liS s m) (t + 1) (-1, nI (ms_kh s m), s, ms_gs (ms_kh s m) s ge)).2.1) tp fr tq vl wr), (o 1, arI E 122 (ms_liZ s t)), (o 4, arI E 122 ((it (ms_liS s m) (t + 1) (-1, nI (ms_kh s m), s, ms_gs (ms_kh s m) s ge)).2.2.1)), (o 5, arI E 7 stt), (o 6, arI E 12 ((it (ms_liS s m) (t + 1) (-1, nI (ms_kh s m), s, ms_gs (ms_kh s m) s ge)).2.2.2))]) (by simp only [it_s]; simp only [ms_liS, c29, c44, ↓reduceIte]; first | done | rfl) ?_
          exact J58
  refine G.lvp (lv' := [(0, .ref (o 0)), (1, .int (nI m)), (2, .int 0)]) [1, 2, 0] rfl ?_
  refine G.lve (lv' := [(0, .ref (o 0)), (1, .int (nI m)), (2, .int (nI 0))]) (by rfl) ?_
  refine G.we (ws' := [(o 0, moO o ik ((it (ms_liS s m) 0 (-1, nI (ms_kh s m), s, ms_gs (ms_kh s m) s ge)).1) ((it (ms_liS s m) 0 (-1, nI (ms_kh s m), s, ms_gs (ms_kh s m) s ge)).2.1) tp fr tq vl wr), (o 1, arI E 122 s), (o 4, arI E 122 ((it (ms_liS s m) 0 (-1, nI (ms_kh s m), s, ms_gs (ms_kh s m) s ge)).2.2.1)), (o 5, arI E 7 stt), (o 6, arI E 12 ((it (ms_liS s m) 0 (-1, nI (ms_kh s m), s, ms_gs (ms_kh s m) s ge)).2.2.2))]) (by rfl) ?_
  exact L26 13 0 (by omega) (by omega)
set_option maxHeartbeats 4000000 in
set_option maxRecDepth 100000 in
theorem c_X4_limeno (l : Launch) (E : EV) (m : Nat) (o : Nat → Nat) (ik : Int32) (be : Int32) (so : Int32) (tp : Int32) (fr : Int32) (tq : Int32) (vl : Int32) (wr : Int32) (s : Nat → Int32) (asd : Nat → Int32) (stt : Nat → Int32) (ge : Nat → Int32) (h1 : m < 8) (h2 : ¬ 0 ≤ (ms_li s m ge).1) : CI l yX4_lime wsX4_lime rmX4_lime E [.ref (o 0), .int (nI m)] [(o 0, moO o ik be so tp fr tq vl wr), (o 1, arI E 122 s), (o 4, arI E 122 asd), (o 5, arI E 7 stt), (o 6, arI E 12 ge)] [(o 0, moO o ik ((ms_li s m ge).1) ((ms_li s m ge).2.1) tp fr tq vl wr), (o 1, arI E 122 s), (o 4, arI E 122 ((ms_li s m ge).2.2.1)), (o 5, arI E 7 (upd stt 3 (stt 3 + 1))), (o 6, arI E 12 ((ms_li s m ge).2.2.2))] ((-1000000004)) := by
  refine CI.of (own := RX4) (cc := cX4_lime) (nL := 4) (rt := (some .int)) (by decide) rfl rfl (Nat.le_of_ble_eq_true rfl) (fun X hX hQ => ?_)
  show G E X 4 0 [(0, .ref (o 0)), (1, .int (nI m))] [] [(o 0, moO o ik be so tp fr tq vl wr), (o 1, arI E 122 s), (o 4, arI E 122 asd), (o 5, arI E 7 stt), (o 6, arI E 12 ge)]
  refine G.iload_n hX 1 rfl dX4_lime_0 ?_
  refine G.s0i hX (As := [.int (nI m)]) (st := []) (c_X4_isMessagen _ E (x := m) (h1 := by omega)) gX4_lime_X4_isMessage cp_X4_isMessage (by decide) rfl rfl (Nat.le_of_ble_eq_true rfl) dX4_lime_1 ?_
  refine G.if_ne hX (tgt := 14) (by decide) dX4_lime_4 (fun _ => ?_) (fun c4 => absurd c4 (by decide))
  refine G.aload_n hX 0 rfl dX4_lime_14 ?_
  refine G.aload_n hX 0 rfl dX4_lime_15 ?_
  refine G.iconst hX (v := -1) (by decide) dX4_lime_16 ?_
  refine G.iload_n hX 1 rfl dX4_lime_17 ?_
  refine G.vi hX (As := [.int ((-1)), .int (nI m)]) (st := [.ref (o 0)]) (wr := [(o 5, arI E 7 stt)]) (wf := [(o 0, moO o ik be so tp fr tq vl wr), (o 1, arI E 122 s), (o 4, arI E 122 s), (o 5, arI E 7 stt), (o 6, arI E 12 (ms_gs (ms_kh s m) s ge))]) (q0 := 0) (ci := 4) rfl rfl (c_X4_knownInh _ E (m := m) (o := o) (ik := ik) (be := be) (so := so) (tp := tp) (fr := fr) (tq := tq) (vl := vl) (wr := wr) (s := s) (asd := asd) (ge := ge) (h1 := by omega)) gX4_lime_X4_knownIn cp_X4_knownIn (by decide) [0, 1, 2, 4] [3] [1, 2, 3, 0, 4] ⟨rfl, rfl, by decide, rfl⟩ rfl rfl (Nat.le_of_ble_eq_true rfl) dX4_lime_18 ?_
  refine G.vv hX (As := [.int (nI (ms_kh s m))]) (st := []) (wr := [(o 1, arI E 122 s), (o 4, arI E 122 s), (o 5, arI E 7 stt), (o 6, arI E 12 (ms_gs (ms_kh s m) s ge))]) (wf := [(o 0, moO o ik ((-1)) ((nI (ms_kh s m))) tp fr tq vl wr), (o 1, arI E 122 s), (o 4, arI E 122 s), (o 5, arI E 7 stt), (o 6, arI E 12 (ms_gs (ms_kh s m) s ge))]) (q0 := 0) (ci := 4) rfl rfl (c_X4_begins _ E (v := nI (ms_kh s m)) (o := o) (ik := ik) (be := be) (so := so) (tp := tp) (fr := fr) (tq := tq) (vl := vl) (wr := wr) ) gX4_lime_X4_begins cp_X4_begins (by decide) [0] [1, 2, 3, 4] [4, 0, 1, 2, 3] ⟨rfl, rfl, by decide, rfl⟩ rfl rfl (Nat.le_of_ble_eq_true rfl) dX4_lime_21 ?_
  refine G.iconst hX (v := 0) (by decide) dX4_lime_24 ?_
  refine G.istore_n hX (lv' := [(2, .int 0), (0, .ref (o 0)), (1, .int (nI m))]) rfl (by decide) rfl dX4_lime_25 ?_
  have L26 : ∀ (n : Nat) (t : Nat), t ≤ 12 → 13 ≤ t + n → G E X 4 26 [(0, .ref (o 0)), (1, .int (nI m)), (2, .int (nI t))] [] [(o 0, moO o ik ((it (ms_liS s m) t (-1, nI (ms_kh s m), s, ms_gs (ms_kh s m) s ge)).1) ((it (ms_liS s m) t (-1, nI (ms_kh s m), s, ms_gs (ms_kh s m) s ge)).2.1) tp fr tq vl wr), (o 1, arI E 122 s), (o 4, arI E 122 ((it (ms_liS s m) t (-1, nI (ms_kh s m), s, ms_gs (ms_kh s m) s ge)).2.2.1)), (o 5, arI E 7 stt), (o 6, arI E 12 ((it (ms_liS s m) t (-1, nI (ms_kh s m), s, ms_gs (ms_kh s m) s ge)).2.2.2))] := by
    intro n
    induction n with
    | zero => intro t hl26_0 hl26_1; exact absurd hl26_1 (by omega)
    | succ n ih26 =>
      intro t hl26_0 hl26_1
      refine G.iload_n hX 2 rfl dX4_lime_26 ?_
      refine G.bipush hX (v := 12) (by decide) dX4_lime_27 ?_
      refine G.n_ge hX (a := t) (b := 12) (tgt := 75) (by omega) (by omega) (by decide) dX4_lime_29 (fun c29 => ?_) (fun c29 => ?_)
      · obtain rfl : t = 12 := by omega
        refine G.we (ws' := [(o 0, moO o ik ((ms_li s m ge).1) ((ms_li s m ge).2.1) tp fr tq vl wr), (o 1, arI E 122 s), (o 4, arI E 122 ((ms_li s m ge).2.2.1)), (o 5, arI E 7 stt), (o 6, arI E 12 ((ms_li s m ge).2.2.2))]) (by rfl) ?_
        refine G.aload_n hX 0 rfl dX4_lime_75 ?_
        refine G.vi hX (As := []) (st := []) (wr := [(o 1, arI E 122 s), (o 4, arI E 122 ((ms_li s m ge).2.2.1)), (o 6, arI E 12 ((ms_li s m ge).2.2.2))]) (wf := [(o 0, moO o ik ((ms_li s m ge).1) ((ms_li s m ge).2.1) tp fr tq vl wr), (o 1, arI E 122 s), (o 4, arI E 122 ((ms_li s m ge).2.2.1)), (o 5, arI E 7 (upd stt 3 (stt 3 + 1))), (o 6, arI E 12 ((ms_li s m ge).2.2.2))]) (q0 := 0) (ci := 4) rfl rfl (c_X4_bestOrNoneno _ E (o := o) (ik := ik) (be := (ms_li s m ge).1) (so := (ms_li s m ge).2.1) (tp := tp) (fr := fr) (tq := tq) (vl := vl) (wr := wr) (stt := stt) (h1 := by omega)) gX4_lime_X4_bestOrNone cp_X4_bestOrNone (by decide) [0, 3] [1, 2, 4] [3, 0, 1, 4, 2] ⟨rfl, rfl, by decide, rfl⟩ rfl rfl (Nat.le_of_ble_eq_true rfl) dX4_lime_76 ?_
        exact G.iret hX hQ dX4_lime_79 (by rfl) (by rfl)
      · refine G.aload_n hX 0 rfl dX4_lime_32 ?_
        refine G.iload_n hX 2 rfl dX4_lime_33 ?_
        refine G.iconst hX (v := 0) (by decide) dX4_lime_34 ?_
        refine G.s0i hX (As := [.int (nI t), .int 0]) (st := [.ref (o 0)]) (c_X4_spotOf _ E (t := t) (w := 0) ) gX4_lime_X4_spotOf cp_X4_spotOf (by decide) rfl rfl (Nat.le_of_ble_eq_true rfl) dX4_lime_35 ?_
        refine G.ie (y := nI (2 + 10 * t)) rfl ?_
        refine G.iconst hX (v := 0) (by decide) dX4_lime_38 ?_
        refine G.vi hX (As := [.int (nI (2 + 10 * t)), .int 0]) (st := []) (wr := [(o 4, arI E 122 ((it (ms_liS s m) t (-1, nI (ms_kh s m), s, ms_gs (ms_kh s m) s ge)).2.2.1)), (o 5, arI E 7 stt), (o 6, arI E 12 ((it (ms_liS s m) t (-1, nI (ms_kh s m), s, ms_gs (ms_kh s m) s ge)).2.2.2))]) (wf := [(o 0, moO o ik ((it (ms_liS s m) t (-1, nI (ms_kh s m), s, ms_gs (ms_kh s m) s ge)).1) ((it (ms_liS s m) t (-1, nI (ms_kh s m), s, ms_gs (ms_kh s m) s ge)).2.1) tp fr tq vl wr), (o 1, arI E 122 (upd s (2 + 10 * t) 0)), (o 4, arI E 122 ((it (ms_liS s m) t (-1, nI (ms_kh s m), s, ms_gs (ms_kh s m) s ge)).2.2.1)), (o 5, arI E 7 stt), (o 6, arI E 12 ((it (ms_liS s m) t (-1, nI (ms_kh s m), s, ms_gs (ms_kh s m) s ge)).2.2.2))]) (q0 := 0) (ci := 4) rfl rfl (c_X4_becomes _ E (w := 2 + 10 * t) (v := 0) (o := o) (ik := ik) (be := (it (ms_liS s m) t (-1, nI (ms_kh s m), s, ms_gs (ms_kh s m) s ge)).1) (so := (it (ms_liS s m) t (-1, nI (ms_kh s m), s, ms_gs (ms_kh s m) s ge)).2.1) (tp := tp) (fr := fr) (tq := tq) (vl := vl) (wr := wr) (s := s) (h1 := by omega)) gX4_lime_X4_becomes cp_X4_becomes (by decide) [0, 1] [2, 3, 4] [3, 4, 0, 1, 2] ⟨rfl, rfl, by decide, rfl⟩ rfl rfl (Nat.le_of_ble_eq_true rfl) dX4_lime_39 ?_
        refine G.we (ws' := [(o 0, moO o ik ((it (ms_liS s m) t (-1, nI (ms_kh s m), s, ms_gs (ms_kh s m) s ge)).1) ((it (ms_liS s m) t (-1, nI (ms_kh s m), s, ms_gs (ms_kh s m) s ge)).2.1) tp fr tq vl wr), (o 1, arI E 122 (ms_liZ s t)), (o 4, arI E 122 ((it (ms_liS s m) t (-1, nI (ms_kh s m), s, ms_gs (ms_kh s m) s ge)).2.2.1)), (o 5, arI E 7 stt), (o 6, arI E 12 ((it (ms_liS s m) t (-1, nI (ms_kh s m), s, ms_gs (ms_kh s m) s ge)).2.2.2))]) (by rfl) ?_
        refine G.istore_n hX (lv' := [(3, .int (s (2 + 10 * t))), (0, .ref (o 0)), (1, .int (nI m)), (2, .int (nI t))]) rfl (by decide) rfl dX4_lime_42 ?_
        have J58 : G E X 4 58 [(0, .ref (o 0)), (1, .int (nI m)), (2, .int (nI t)), (3, .int (s (2 + 10 * t)))] [] [(o 0, moO o ik ((it (ms_liS s m) (t + 1) (-1, nI (ms_kh s m), s, ms_gs (ms_kh s m) s ge)).1) ((it (ms_liS s m) (t + 1) (-1, nI (ms_kh s m), s, ms_gs (ms_kh s m) s ge)).2.1) tp fr tq vl wr), (o 1, arI E 122 (ms_liZ s t)), (o 4, arI E 122 ((it (ms_liS s m) (t + 1) (-1, nI (ms_kh s m), s, ms_gs (ms_kh s m) s ge)).2.2.1)), (o 5, arI E 7 stt), (o 6, arI E 12 ((it (ms_liS s m) (t + 1) (-1, nI (ms_kh s m), s, ms_gs (ms_kh s m) s ge)).2.2.2))] := by
          refine G.aload_n hX 0 rfl dX4_lime_58 ?_
          refine G.get hX inc_X4_lime_4 0 rfl rfl 0 (by decide) (by decide +kernel) rfl dX4_lime_59 ?_
          refine G.iload_n hX 2 rfl dX4_lime_62 ?_
          refine G.iconst hX (v := 0) (by decide) dX4_lime_63 ?_
          refine G.s0i hX (As := [.int (nI t), .int 0]) (st := [.ref (o 1)]) (c_X4_spotOf _ E (t := t) (w := 0) ) gX4_lime_X4_spotOf cp_X4_spotOf (by decide) rfl rfl (Nat.le_of_ble_eq_true rfl) dX4_lime_64 ?_
          refine G.ie (y := nI (2 + 10 * t)) rfl ?_
          refine G.iload_n hX 3 rfl dX4_lime_67 ?_
          refine G.iast hX (j := 2 + 10 * t) (ws' := [(o 0, moO o ik ((it (ms_liS s m) (t + 1) (-1, nI (ms_kh s m), s, ms_gs (ms_kh s m) s ge)).1) ((it (ms_liS s m) (t + 1) (-1, nI (ms_kh s m), s, ms_gs (ms_kh s m) s ge)).2.1) tp fr tq vl wr), (o 1, arI E 122 (upd (ms_liZ s t) (2 + 10 * t) (s (2 + 10 * t)))), (o 4, arI E 122 ((it (ms_liS s m) (t + 1) (-1, nI (ms_kh s m), s, ms_gs (ms_kh s m) s ge)).2.2.1)), (o 5, arI E 7 stt), (o 6, arI E 12 ((it (ms_liS s m) (t + 1) (-1, nI (ms_kh s m), s, ms_gs (ms_kh s m) s ge)).2.2.2))]) 1 rfl (by omega) (by omega) rfl rfl dX4_lime_68 ?_
          refine G.we (ws' := [(o 0, moO o ik ((it (ms_liS s m) (t + 1) (-1, nI (ms_kh s m), s, ms_gs (ms_kh s m) s ge)).1) ((it (ms_liS s m) (t + 1) (-1, nI (ms_kh s m), s, ms_gs (ms_kh s m) s ge)).2.1) tp fr tq vl wr), (o 1, arI E 122 s), (o 4, arI E 122 ((it (ms_liS s m) (t + 1) (-1, nI (ms_kh s m), s, ms_gs (ms_kh s m) s ge)).2.2.1)), (o 5, arI E 7 stt), (o 6, arI E 12 ((it (ms_liS s m) (t + 1) (-1, nI (ms_kh s m), s, ms_gs (ms_kh s m) s ge)).2.2.2))]) (by rw [ms_liZ, upd2, updS]) ?_
          refine G.iinc hX (n := 1) (lv' := [(2, .int (nI (t + 1))), (0, .ref (o 0)), (1, .int (nI m)), (3, .int (s (2 + 10 * t)))]) 2 rfl (inc_nI t 1 rfl) (by decide) rfl dX4_lime_69 ?_
          refine G.goto hX (tgt := 26) (by decide) dX4_lime_72 ?_
          refine G.lvp (lv' := [(0, .ref (o 0)), (1, .int (nI m)), (2, .int (nI (t + 1)))]) [1, 2, 0] rfl ?_
          refine G.lve (lv' := [(0, .ref (o 0)), (1, .int (nI m)), (2, .int (nI ((t + 1))))]) (by rfl) ?_
          exact ih26 (t + 1) (by omega) (by omega)
        refine G.iload_n hX 0 rfl dX4_lime_43 ?_
        refine G.if_eq hX (tgt := 58) (by decide) dX4_lime_44 (fun c44 => ?_) (fun c44 => ?_)
        · refine G.lvp (lv' := [(0, .ref (o 0)), (1, .int (nI m)), (2, .int (nI t)), (3, .int (s (2 + 10 * t)))]) [1, 2, 3, 0] rfl ?_
          refine G.we (ws' := [(o 0, moO o ik ((it (ms_liS s m) (t + 1) (-1, nI (ms_kh s m), s, ms_gs (ms_kh s m) s ge)).1) ((it (ms_liS s m) (t + 1) (-1, nI (ms_kh s m), s, ms_gs (ms_kh s m) s ge)).2.1) tp fr tq vl wr), (o 1, arI E 122 (ms_liZ s t)), (o 4, arI E 122 ((it (ms_liS s m) (t + 1) (-1, nI (ms_kh s m), s, ms_gs (ms_kh s m) s ge)).2.2.1)), (o 5, arI E 7 stt), (o 6, arI E 12 ((it (ms_liS s m) (t + 1) (-1, nI (ms_kh s m), s, ms_gs (ms_kh s m) s ge)).2.2.2))]) (by simp only [it_s]; simp only [ms_liS, c29, c44, ↓reduceIte]; first | done | rfl) ?_
          exact J58
        · refine G.aload_n hX 1 rfl dX4_lime_47 ?_
          refine G.iload_n hX 3 rfl dX4_lime_48 ?_
          refine G.aload_n hX 1 rfl dX4_lime_49 ?_
          refine G.iconst hX (v := -1) (by decide) dX4_lime_50 ?_
          refine G.iload_n hX 2 rfl dX4_lime_51 ?_
          refine G.vi hX (As := [.int ((-1)), .int (nI m)]) (st := [.int (nI t), .ref (o 0)]) (wr := [(o 5, arI E 7 stt)]) (wf := [(o 0, moO o ik ((it (ms_liS s m) t (-1, nI (ms_kh s m), s, ms_gs (ms_kh s m) s ge)).1) ((it (ms_liS s m) t (-1, nI (ms_kh s m), s, ms_gs (ms_kh s m) s ge)).2.1) tp fr tq vl wr), (o 1, arI E 122 (ms_liZ s t)), (o 4, arI E 122 ((ms_liZ s t))), (o 5, arI E 7 stt), (o 6, arI E 12 (ms_gs (ms_kh (ms_liZ s t) m) (ms_liZ s t) ((it (ms_liS s m) t (-1, nI (ms_kh s m), s, ms_gs (ms_kh s m) s ge)).2.2.2)))]) (q0 := 0) (ci := 4) rfl rfl (c_X4_knownInh _ E (m := m) (o := o) (ik := ik) (be := (it (ms_liS s m) t (-1, nI (ms_kh s m), s, ms_gs (ms_kh s m) s ge)).1) (so := (it (ms_liS s m) t (-1, nI (ms_kh s m), s, ms_gs (ms_kh s m) s ge)).2.1) (tp := tp) (fr := fr) (tq := tq) (vl := vl) (wr := wr) (s := ms_liZ s t) (asd := (it (ms_liS s m) t (-1, nI (ms_kh s m), s, ms_gs (ms_kh s m) s ge)).2.2.1) (ge := (it (ms_liS s m) t (-1, nI (ms_kh s m), s, ms_gs (ms_kh s m) s ge)).2.2.2) (h1 := by omega)) gX4_lime_X4_knownIn cp_X4_knownIn (by decide) [0, 1, 2, 4] [3] [1, 2, 3, 0, 4] ⟨rfl, rfl, by decide, rfl⟩ rfl rfl (Nat.le_of_ble_eq_true rfl) dX4_lime_52 ?_
          refine G.vv hX (As := [.int (nI t), .int (nI (ms_kh (ms_liZ s t) m))]) (st := []) (wr := [(o 1, arI E 122 (ms_liZ s t)), (o 4, arI E 122 ((ms_liZ s t))), (o 5, arI E 7 stt), (o 6, arI E 12 (ms_gs (ms_kh (ms_liZ s t) m) (ms_liZ s t) ((it (ms_liS s m) t (-1, nI (ms_kh s m), s, ms_gs (ms_kh s m) s ge)).2.2.2)))]) (wf := [(o 0, moO o ik (trB ((it (ms_liS s m) t (-1, nI (ms_kh s m), s, ms_gs (ms_kh s m) s ge)).1) ((it (ms_liS s m) t (-1, nI (ms_kh s m), s, ms_gs (ms_kh s m) s ge)).2.1) (nI t) (nI (ms_kh (ms_liZ s t) m))) (trS ((it (ms_liS s m) t (-1, nI (ms_kh s m), s, ms_gs (ms_kh s m) s ge)).2.1) (nI (ms_kh (ms_liZ s t) m))) tp fr tq vl wr), (o 1, arI E 122 (ms_liZ s t)), (o 4, arI E 122 ((ms_liZ s t))), (o 5, arI E 7 stt), (o 6, arI E 12 (ms_gs (ms_kh (ms_liZ s t) m) (ms_liZ s t) ((it (ms_liS s m) t (-1, nI (ms_kh s m), s, ms_gs (ms_kh s m) s ge)).2.2.2)))]) (q0 := 0) (ci := 4) rfl rfl (c_X4_tries _ E (v := nI t) (w := nI (ms_kh (ms_liZ s t) m)) (o := o) (ik := ik) (be := (it (ms_liS s m) t (-1, nI (ms_kh s m), s, ms_gs (ms_kh s m) s ge)).1) (so := (it (ms_liS s m) t (-1, nI (ms_kh s m), s, ms_gs (ms_kh s m) s ge)).2.1) (tp := tp) (fr := fr) (tq := tq) (vl := vl) (wr := wr) ) gX4_lime_X4_tries cp_X4_tries (by decide) [0] [1, 2, 3, 4] [4, 0, 1, 2, 3] ⟨rfl, rfl, by decide, rfl⟩ rfl rfl (Nat.le_of_ble_eq_true rfl) dX4_lime_55 ?_
          refine G.lvp (lv' := [(0, .ref (o 0)), (1, .int (nI m)), (2, .int (nI t)), (3, .int (s (2 + 10 * t)))]) [1, 2, 3, 0] rfl ?_
          refine G.we (ws' := [(o 0, moO o ik ((it (ms_liS s m) (t + 1) (-1, nI (ms_kh s m), s, ms_gs (ms_kh s m) s ge)).1) ((it (ms_liS s m) (t + 1) (-1, nI (ms_kh s m), s, ms_gs (ms_kh s m) s ge)).2.1) tp fr tq vl wr), (o 1, arI E 122 (ms_liZ s t)), (o 4, arI E 122 ((it (ms_liS s m) (t + 1) (-1, nI (ms_kh s m), s, ms_gs (ms_kh s m) s ge)).2.2.1)), (o 5, arI E 7 stt), (o 6, arI E 12 ((it (ms_liS s m) (t + 1) (-1, nI (ms_kh s m), s, ms_gs (ms_kh s m) s ge)).2.2.2))]) (by simp only [it_s]; simp only [ms_liS, c29, c44, ↓reduceIte]; first | done | rfl) ?_
          exact J58
  refine G.lvp (lv' := [(0, .ref (o 0)), (1, .int (nI m)), (2, .int 0)]) [1, 2, 0] rfl ?_
  refine G.lve (lv' := [(0, .ref (o 0)), (1, .int (nI m)), (2, .int (nI 0))]) (by rfl) ?_
  refine G.we (ws' := [(o 0, moO o ik ((it (ms_liS s m) 0 (-1, nI (ms_kh s m), s, ms_gs (ms_kh s m) s ge)).1) ((it (ms_liS s m) 0 (-1, nI (ms_kh s m), s, ms_gs (ms_kh s m) s ge)).2.1) tp fr tq vl wr), (o 1, arI E 122 s), (o 4, arI E 122 ((it (ms_liS s m) 0 (-1, nI (ms_kh s m), s, ms_gs (ms_kh s m) s ge)).2.2.1)), (o 5, arI E 7 stt), (o 6, arI E 12 ((it (ms_liS s m) 0 (-1, nI (ms_kh s m), s, ms_gs (ms_kh s m) s ge)).2.2.2))]) (by rfl) ?_
  exact L26 13 0 (by omega) (by omega)
abbrev rmX4_kind : Room := { frames := 8, cells := 0, slots := 0, locals := 180 }
theorem cp_X4_kind : CP yX4_kind RX4 wsX4_kind 5 2 rmX4_kind := ⟨⟨_, _, _, rfl⟩, rfl, rfl, by decide +kernel⟩
theorem inc_X4_kind_4 : ∀ w ∈ u_ws RX4 TX4 19, w ∈ wsX4_kind := by decide +kernel
set_option maxHeartbeats 4000000 in
set_option maxRecDepth 100000 in
theorem c_X4_kindbad (l : Launch) (E : EV) (x : Int32) (y : Int32) (o : Nat → Nat) (ik : Int32) (be : Int32) (so : Int32) (tp : Int32) (fr : Int32) (tq : Int32) (vl : Int32) (wr : Int32) (stt : Nat → Int32) (h1 : (inI x 0 11 && inI y 0 7) = false) : CI l yX4_kind wsX4_kind rmX4_kind E [.ref (o 0), .int x, .int y] [(o 0, moO o ik be so tp fr tq vl wr), (o 5, arI E 7 stt)] [(o 0, moO o ik be so tp fr tq vl wr), (o 5, arI E 7 (upd stt 0 (stt 0 + 1)))] ((-1000000001)) := by
  refine CI.of (own := RX4) (cc := cX4_kind) (nL := 5) (rt := (some .int)) (by decide) rfl rfl (Nat.le_of_ble_eq_true rfl) (fun X hX hQ => ?_)
  show G E X 5 0 [(0, .ref (o 0)), (1, .int x), (2, .int y)] [] [(o 0, moO o ik be so tp fr tq vl wr), (o 5, arI E 7 stt)]
  refine G.iload_n hX 1 rfl dX4_kind_0 ?_
  refine G.s0i hX (As := [.int x]) (st := []) (c_X4_isTree _ E (x := x) ) gX4_kind_X4_isTree cp_X4_isTree (by decide) rfl rfl (Nat.le_of_ble_eq_true rfl) dX4_kind_1 ?_
  refine G.b_eq hX (tgt := 14) (by decide) dX4_kind_4 (fun c4 => ?_) (fun c4 => ?_)
  · refine G.aload_n hX 0 rfl dX4_kind_14 ?_
    refine G.ldc hX (v := -1000000001) (by decide +kernel) dX4_kind_15 ?_
    refine G.vi hX (As := [.int ((-1000000001))]) (st := []) (wr := []) (wf := [(o 0, moO o ik be so tp fr tq vl wr), (o 5, arI E 7 (upd stt 0 (stt 0 + 1)))]) (q0 := 0) (ci := 4) rfl rfl (c_X4_finds0 _ E (o := o) (ik := ik) (be := be) (so := so) (tp := tp) (fr := fr) (tq := tq) (vl := vl) (wr := wr) (stt := stt) ) gX4_kind_X4_finds cp_X4_finds (by decide) [0, 1] [] [0, 1] ⟨rfl, rfl, by decide, rfl⟩ rfl rfl (Nat.le_of_ble_eq_true rfl) dX4_kind_17 ?_
    exact G.iret hX hQ dX4_kind_20 (by rfl) (by rfl)
  · refine G.iload_n hX 2 rfl dX4_kind_7 ?_
    refine G.s0i hX (As := [.int y]) (st := []) (c_X4_isMessage _ E (x := y) ) gX4_kind_X4_isMessage cp_X4_isMessage (by decide) rfl rfl (Nat.le_of_ble_eq_true rfl) dX4_kind_8 ?_
    refine G.b_ne hX (tgt := 21) (by decide) dX4_kind_11 (fun c11 => ?_) (fun c11 => ?_)
    · exact absurd h1 (by simp [c4, c11])
    · refine G.aload_n hX 0 rfl dX4_kind_14 ?_
      refine G.ldc hX (v := -1000000001) (by decide +kernel) dX4_kind_15 ?_
      refine G.vi hX (As := [.int ((-1000000001))]) (st := []) (wr := []) (wf := [(o 0, moO o ik be so tp fr tq vl wr), (o 5, arI E 7 (upd stt 0 (stt 0 + 1)))]) (q0 := 0) (ci := 4) rfl rfl (c_X4_finds0 _ E (o := o) (ik := ik) (be := be) (so := so) (tp := tp) (fr := fr) (tq := tq) (vl := vl) (wr := wr) (stt := stt) ) gX4_kind_X4_finds cp_X4_finds (by decide) [0, 1] [] [0, 1] ⟨rfl, rfl, by decide, rfl⟩ rfl rfl (Nat.le_of_ble_eq_true rfl) dX4_kind_17 ?_
      exact G.iret hX hQ dX4_kind_20 (by rfl) (by rfl)
set_option maxHeartbeats 4000000 in
set_option maxRecDepth 100000 in
theorem c_X4_kindok (l : Launch) (E : EV) (t : Nat) (m : Nat) (o : Nat → Nat) (ik : Int32) (be : Int32) (so : Int32) (tp : Int32) (fr : Int32) (tq : Int32) (vl : Int32) (wr : Int32) (s : Nat → Int32) (asd : Nat → Int32) (stt : Nat → Int32) (ge : Nat → Int32) (h1 : t < 12) (h2 : m < 8) (h3 : 0 ≤ (ms_ki s t m asd ge).1) : CI l yX4_kind wsX4_kind rmX4_kind E [.ref (o 0), .int (nI t), .int (nI m)] [(o 0, moO o ik be so tp fr tq vl wr), (o 1, arI E 122 s), (o 4, arI E 122 asd), (o 5, arI E 7 stt), (o 6, arI E 12 ge)] [(o 0, moO o ik ((ms_ki s t m asd ge).1) ((ms_ki s t m asd ge).2.1) tp fr tq vl wr), (o 1, arI E 122 s), (o 4, arI E 122 ((ms_ki s t m asd ge).2.2.2.1)), (o 5, arI E 7 stt), (o 6, arI E 12 ((ms_ki s t m asd ge).2.2.2.2))] ((ms_ki s t m asd ge).1) := by
  refine CI.of (own := RX4) (cc := cX4_kind) (nL := 5) (rt := (some .int)) (by decide) rfl rfl (Nat.le_of_ble_eq_true rfl) (fun X hX hQ => ?_)
  show G E X 5 0 [(0, .ref (o 0)), (1, .int (nI t)), (2, .int (nI m))] [] [(o 0, moO o ik be so tp fr tq vl wr), (o 1, arI E 122 s), (o 4, arI E 122 asd), (o 5, arI E 7 stt), (o 6, arI E 12 ge)]
  refine G.iload_n hX 1 rfl dX4_kind_0 ?_
  refine G.s0i hX (As := [.int (nI t)]) (st := []) (c_X4_isTreen _ E (x := t) (h1 := by omega)) gX4_kind_X4_isTree cp_X4_isTree (by decide) rfl rfl (Nat.le_of_ble_eq_true rfl) dX4_kind_1 ?_
  refine G.if_eq hX (tgt := 14) (by decide) dX4_kind_4 (fun c4 => absurd c4 (by decide)) (fun _ => ?_)
  refine G.iload_n hX 2 rfl dX4_kind_7 ?_
  refine G.s0i hX (As := [.int (nI m)]) (st := []) (c_X4_isMessagen _ E (x := m) (h1 := by omega)) gX4_kind_X4_isMessage cp_X4_isMessage (by decide) rfl rfl (Nat.le_of_ble_eq_true rfl) dX4_kind_8 ?_
  refine G.if_ne hX (tgt := 21) (by decide) dX4_kind_11 (fun _ => ?_) (fun c11 => absurd c11 (by decide))
  refine G.aload_n hX 0 rfl dX4_kind_21 ?_
  refine G.sipush hX (v := 201) (by decide) dX4_kind_22 ?_
  refine G.vv hX (As := [.int 201]) (st := []) (wr := [(o 1, arI E 122 s), (o 4, arI E 122 asd), (o 5, arI E 7 stt), (o 6, arI E 12 ge)]) (wf := [(o 0, moO o ik ((-1)) 201 tp fr tq vl wr), (o 1, arI E 122 s), (o 4, arI E 122 asd), (o 5, arI E 7 stt), (o 6, arI E 12 ge)]) (q0 := 0) (ci := 4) rfl rfl (c_X4_begins _ E (v := 201) (o := o) (ik := ik) (be := be) (so := so) (tp := tp) (fr := fr) (tq := tq) (vl := vl) (wr := wr) ) gX4_kind_X4_begins cp_X4_begins (by decide) [0] [1, 2, 3, 4] [4, 0, 1, 2, 3] ⟨rfl, rfl, by decide, rfl⟩ rfl rfl (Nat.le_of_ble_eq_true rfl) dX4_kind_25 ?_
  refine G.aload_n hX 0 rfl dX4_kind_28 ?_
  refine G.iload_n hX 1 rfl dX4_kind_29 ?_
  refine G.iconst hX (v := 0) (by decide) dX4_kind_30 ?_
  refine G.vi hX (As := [.int (nI t), .int 0]) (st := []) (wr := [(o 4, arI E 122 asd), (o 5, arI E 7 stt), (o 6, arI E 12 ge)]) (wf := [(o 0, moO o ik ((-1)) 201 tp fr tq vl wr), (o 1, arI E 122 s), (o 4, arI E 122 asd), (o 5, arI E 7 stt), (o 6, arI E 12 ge)]) (q0 := 0) (ci := 4) rfl rfl (c_X4_its _ E (t := t) (w := 0) (o := o) (ik := ik) (be := (-1)) (so := 201) (tp := tp) (fr := fr) (tq := tq) (vl := vl) (wr := wr) (s := s) (h1 := by omega)) gX4_kind_X4_its cp_X4_its (by decide) [0, 1] [2, 3, 4] [3, 4, 0, 1, 2] ⟨rfl, rfl, by decide, rfl⟩ rfl rfl (Nat.le_of_ble_eq_true rfl) dX4_kind_31 ?_
  refine G.ie (y := s (2 + 10 * t)) rfl ?_
  refine G.istore_n hX (lv' := [(3, .int (s (2 + 10 * t))), (0, .ref (o 0)), (1, .int (nI t)), (2, .int (nI m))]) rfl (by decide) rfl dX4_kind_34 ?_
  refine G.iconst hX (v := 0) (by decide) dX4_kind_35 ?_
  refine G.istore hX (lv' := [(4, .int 0), (3, .int (s (2 + 10 * t))), (0, .ref (o 0)), (1, .int (nI t)), (2, .int (nI m))]) (by decide) rfl dX4_kind_36 ?_
  have L38 : ∀ (n : Nat) (k : Nat), k ≤ 6 → 7 ≤ k + n → G E X 5 38 [(0, .ref (o 0)), (1, .int (nI t)), (2, .int (nI m)), (3, .int (s (2 + 10 * t))), (4, .int (nI k))] [] [(o 0, moO o ik ((it (ms_kiS s t m) k (-1, 201, s (2 + 10 * t), asd, ge)).1) ((it (ms_kiS s t m) k (-1, 201, s (2 + 10 * t), asd, ge)).2.1) tp fr tq vl wr), (o 1, arI E 122 (upd s (2 + 10 * t) (it (ms_kiS s t m) k (-1, 201, s (2 + 10 * t), asd, ge)).2.2.1)), (o 4, arI E 122 ((it (ms_kiS s t m) k (-1, 201, s (2 + 10 * t), asd, ge)).2.2.2.1)), (o 5, arI E 7 stt), (o 6, arI E 12 ((it (ms_kiS s t m) k (-1, 201, s (2 + 10 * t), asd, ge)).2.2.2.2))] := by
    intro n
    induction n with
    | zero => intro k hl38_0 hl38_1; exact absurd hl38_1 (by omega)
    | succ n ih38 =>
      intro k hl38_0 hl38_1
      refine G.iload hX 4 rfl dX4_kind_38 ?_
      refine G.iconst hX (v := 5) (by decide) dX4_kind_40 ?_
      refine G.n_gt hX (a := k) (b := 5) (tgt := 74) (by omega) (by omega) (by decide) dX4_kind_41 (fun c41 => ?_) (fun c41 => ?_)
      · obtain rfl : k = 6 := by omega
        refine G.aload_n hX 0 rfl dX4_kind_74 ?_
        refine G.get hX inc_X4_kind_4 0 rfl rfl 0 (by decide) (by decide +kernel) rfl dX4_kind_75 ?_
        refine G.iload_n hX 1 rfl dX4_kind_78 ?_
        refine G.iconst hX (v := 0) (by decide) dX4_kind_79 ?_
        refine G.s0i hX (As := [.int (nI t), .int 0]) (st := [.ref (o 1)]) (c_X4_spotOf _ E (t := t) (w := 0) ) gX4_kind_X4_spotOf cp_X4_spotOf (by decide) rfl rfl (Nat.le_of_ble_eq_true rfl) dX4_kind_80 ?_
        refine G.ie (y := nI (2 + 10 * t)) rfl ?_
        refine G.iload_n hX 3 rfl dX4_kind_83 ?_
        refine G.iast hX (j := 2 + 10 * t) (ws' := [(o 0, moO o ik ((it (ms_kiS s t m) 6 (-1, 201, s (2 + 10 * t), asd, ge)).1) ((it (ms_kiS s t m) 6 (-1, 201, s (2 + 10 * t), asd, ge)).2.1) tp fr tq vl wr), (o 1, arI E 122 (upd (upd s (2 + 10 * t) (it (ms_kiS s t m) 6 (-1, 201, s (2 + 10 * t), asd, ge)).2.2.1) (2 + 10 * t) (s (2 + 10 * t)))), (o 4, arI E 122 ((it (ms_kiS s t m) 6 (-1, 201, s (2 + 10 * t), asd, ge)).2.2.2.1)), (o 5, arI E 7 stt), (o 6, arI E 12 ((it (ms_kiS s t m) 6 (-1, 201, s (2 + 10 * t), asd, ge)).2.2.2.2))]) 1 rfl (by omega) (by omega) rfl rfl dX4_kind_84 ?_
        refine G.we (ws' := [(o 0, moO o ik ((ms_ki s t m asd ge).1) ((ms_ki s t m asd ge).2.1) tp fr tq vl wr), (o 1, arI E 122 s), (o 4, arI E 122 ((ms_ki s t m asd ge).2.2.2.1)), (o 5, arI E 7 stt), (o 6, arI E 12 ((ms_ki s t m asd ge).2.2.2.2))]) (by rw [upd2, updS]; rfl) ?_
        refine G.aload_n hX 0 rfl dX4_kind_85 ?_
        refine G.vi hX (As := []) (st := []) (wr := [(o 1, arI E 122 s), (o 4, arI E 122 ((ms_ki s t m asd ge).2.2.2.1)), (o 5, arI E 7 stt), (o 6, arI E 12 ((ms_ki s t m asd ge).2.2.2.2))]) (wf := [(o 0, moO o ik ((ms_ki s t m asd ge).1) ((ms_ki s t m asd ge).2.1) tp fr tq vl wr), (o 1, arI E 122 s), (o 4, arI E 122 ((ms_ki s t m asd ge).2.2.2.1)), (o 5, arI E 7 stt), (o 6, arI E 12 ((ms_ki s t m asd ge).2.2.2.2))]) (q0 := 0) (ci := 4) rfl rfl (c_X4_bestOrNoneok _ E (o := o) (ik := ik) (be := (ms_ki s t m asd ge).1) (so := (ms_ki s t m asd ge).2.1) (tp := tp) (fr := fr) (tq := tq) (vl := vl) (wr := wr) (h1 := by omega)) gX4_kind_X4_bestOrNone cp_X4_bestOrNone (by decide) [0] [1, 2, 3, 4] [4, 0, 1, 2, 3] ⟨rfl, rfl, by decide, rfl⟩ rfl rfl (Nat.le_of_ble_eq_true rfl) dX4_kind_86 ?_
        exact G.iret hX hQ dX4_kind_89 (by first | rfl | (simp only [c41, ↓reduceIte, Bool.not_true, Bool.not_false, Bool.and_true, Bool.true_and, Bool.and_false, Bool.false_and, Bool.or_true, Bool.true_or, Bool.or_false, Bool.false_or, decide_true, decide_false, not_true_eq_false, not_false_eq_true, Bool.false_eq_true, Bool.true_eq_false]; done) | (simp only [c41, ↓reduceIte, Bool.not_true, Bool.not_false, Bool.and_true, Bool.true_and, Bool.and_false, Bool.false_and, Bool.or_true, Bool.true_or, Bool.or_false, Bool.false_or, decide_true, decide_false, not_true_eq_false, not_false_eq_true, Bool.false_eq_true, Bool.true_eq_false]; rfl) | (simp [c41]; done)) (by rfl)
      · refine G.aload_n hX 0 rfl dX4_kind_44 ?_
        refine G.get hX inc_X4_kind_4 0 rfl rfl 0 (by decide) (by decide +kernel) rfl dX4_kind_45 ?_
        refine G.iload_n hX 1 rfl dX4_kind_48 ?_
        refine G.iconst hX (v := 0) (by decide) dX4_kind_49 ?_
        refine G.s0i hX (As := [.int (nI t), .int 0]) (st := [.ref (o 1)]) (c_X4_spotOf _ E (t := t) (w := 0) ) gX4_kind_X4_spotOf cp_X4_spotOf (by decide) rfl rfl (Nat.le_of_ble_eq_true rfl) dX4_kind_50 ?_
        refine G.ie (y := nI (2 + 10 * t)) rfl ?_
        refine G.iload hX 4 rfl dX4_kind_53 ?_
        refine G.iast hX (j := 2 + 10 * t) (ws' := [(o 0, moO o ik ((it (ms_kiS s t m) k (-1, 201, s (2 + 10 * t), asd, ge)).1) ((it (ms_kiS s t m) k (-1, 201, s (2 + 10 * t), asd, ge)).2.1) tp fr tq vl wr), (o 1, arI E 122 (upd (upd s (2 + 10 * t) (it (ms_kiS s t m) k (-1, 201, s (2 + 10 * t), asd, ge)).2.2.1) (2 + 10 * t) (nI k))), (o 4, arI E 122 ((it (ms_kiS s t m) k (-1, 201, s (2 + 10 * t), asd, ge)).2.2.2.1)), (o 5, arI E 7 stt), (o 6, arI E 12 ((it (ms_kiS s t m) k (-1, 201, s (2 + 10 * t), asd, ge)).2.2.2.2))]) 1 rfl (by omega) (by omega) rfl rfl dX4_kind_55 ?_
        refine G.we (ws' := [(o 0, moO o ik ((it (ms_kiS s t m) k (-1, 201, s (2 + 10 * t), asd, ge)).1) ((it (ms_kiS s t m) k (-1, 201, s (2 + 10 * t), asd, ge)).2.1) tp fr tq vl wr), (o 1, arI E 122 (ms_kiZ s t k)), (o 4, arI E 122 ((it (ms_kiS s t m) k (-1, 201, s (2 + 10 * t), asd, ge)).2.2.2.1)), (o 5, arI E 7 stt), (o 6, arI E 12 ((it (ms_kiS s t m) k (-1, 201, s (2 + 10 * t), asd, ge)).2.2.2.2))]) (by rw [upd2]; rfl) ?_
        refine G.aload_n hX 0 rfl dX4_kind_56 ?_
        refine G.iload hX 4 rfl dX4_kind_57 ?_
        refine G.aload_n hX 0 rfl dX4_kind_59 ?_
        refine G.iconst hX (v := -1) (by decide) dX4_kind_60 ?_
        refine G.iload_n hX 2 rfl dX4_kind_61 ?_
        refine G.vi hX (As := [.int ((-1)), .int (nI m)]) (st := [.int (nI k), .ref (o 0)]) (wr := [(o 5, arI E 7 stt)]) (wf := [(o 0, moO o ik ((it (ms_kiS s t m) k (-1, 201, s (2 + 10 * t), asd, ge)).1) ((it (ms_kiS s t m) k (-1, 201, s (2 + 10 * t), asd, ge)).2.1) tp fr tq vl wr), (o 1, arI E 122 (ms_kiZ s t k)), (o 4, arI E 122 ((ms_kiZ s t k))), (o 5, arI E 7 stt), (o 6, arI E 12 (ms_gs (ms_kh (ms_kiZ s t k) m) (ms_kiZ s t k) ((it (ms_kiS s t m) k (-1, 201, s (2 + 10 * t), asd, ge)).2.2.2.2)))]) (q0 := 0) (ci := 4) rfl rfl (c_X4_knownInh _ E (m := m) (o := o) (ik := ik) (be := (it (ms_kiS s t m) k (-1, 201, s (2 + 10 * t), asd, ge)).1) (so := (it (ms_kiS s t m) k (-1, 201, s (2 + 10 * t), asd, ge)).2.1) (tp := tp) (fr := fr) (tq := tq) (vl := vl) (wr := wr) (s := ms_kiZ s t k) (asd := (it (ms_kiS s t m) k (-1, 201, s (2 + 10 * t), asd, ge)).2.2.2.1) (ge := (it (ms_kiS s t m) k (-1, 201, s (2 + 10 * t), asd, ge)).2.2.2.2) (h1 := by omega)) gX4_kind_X4_knownIn cp_X4_knownIn (by decide) [0, 1, 2, 4] [3] [1, 2, 3, 0, 4] ⟨rfl, rfl, by decide, rfl⟩ rfl rfl (Nat.le_of_ble_eq_true rfl) dX4_kind_62 ?_
        refine G.vv hX (As := [.int (nI k), .int (nI (ms_kh (ms_kiZ s t k) m))]) (st := []) (wr := [(o 1, arI E 122 (ms_kiZ s t k)), (o 4, arI E 122 ((ms_kiZ s t k))), (o 5, arI E 7 stt), (o 6, arI E 12 (ms_gs (ms_kh (ms_kiZ s t k) m) (ms_kiZ s t k) ((it (ms_kiS s t m) k (-1, 201, s (2 + 10 * t), asd, ge)).2.2.2.2)))]) (wf := [(o 0, moO o ik (trB ((it (ms_kiS s t m) k (-1, 201, s (2 + 10 * t), asd, ge)).1) ((it (ms_kiS s t m) k (-1, 201, s (2 + 10 * t), asd, ge)).2.1) (nI k) (nI (ms_kh (ms_kiZ s t k) m))) (trS ((it (ms_kiS s t m) k (-1, 201, s (2 + 10 * t), asd, ge)).2.1) (nI (ms_kh (ms_kiZ s t k) m))) tp fr tq vl wr), (o 1, arI E 122 (ms_kiZ s t k)), (o 4, arI E 122 ((ms_kiZ s t k))), (o 5, arI E 7 stt), (o 6, arI E 12 (ms_gs (ms_kh (ms_kiZ s t k) m) (ms_kiZ s t k) ((it (ms_kiS s t m) k (-1, 201, s (2 + 10 * t), asd, ge)).2.2.2.2)))]) (q0 := 0) (ci := 4) rfl rfl (c_X4_tries _ E (v := nI k) (w := nI (ms_kh (ms_kiZ s t k) m)) (o := o) (ik := ik) (be := (it (ms_kiS s t m) k (-1, 201, s (2 + 10 * t), asd, ge)).1) (so := (it (ms_kiS s t m) k (-1, 201, s (2 + 10 * t), asd, ge)).2.1) (tp := tp) (fr := fr) (tq := tq) (vl := vl) (wr := wr) ) gX4_kind_X4_tries cp_X4_tries (by decide) [0] [1, 2, 3, 4] [4, 0, 1, 2, 3] ⟨rfl, rfl, by decide, rfl⟩ rfl rfl (Nat.le_of_ble_eq_true rfl) dX4_kind_65 ?_
        refine G.iinc hX (n := 1) (lv' := [(4, .int (nI (k + 1))), (0, .ref (o 0)), (1, .int (nI t)), (2, .int (nI m)), (3, .int (s (2 + 10 * t)))]) 4 rfl (inc_nI k 1 rfl) (by decide) rfl dX4_kind_68 ?_
        refine G.goto hX (tgt := 38) (by decide) dX4_kind_71 ?_
        refine G.lvp (lv' := [(0, .ref (o 0)), (1, .int (nI t)), (2, .int (nI m)), (3, .int (s (2 + 10 * t))), (4, .int (nI (k + 1)))]) [1, 2, 3, 4, 0] rfl ?_
        refine G.lve (lv' := [(0, .ref (o 0)), (1, .int (nI t)), (2, .int (nI m)), (3, .int (s (2 + 10 * t))), (4, .int (nI ((k + 1))))]) (by rfl) ?_
        refine G.we (ws' := [(o 0, moO o ik ((it (ms_kiS s t m) (k + 1) (-1, 201, s (2 + 10 * t), asd, ge)).1) ((it (ms_kiS s t m) (k + 1) (-1, 201, s (2 + 10 * t), asd, ge)).2.1) tp fr tq vl wr), (o 1, arI E 122 (upd s (2 + 10 * t) (it (ms_kiS s t m) (k + 1) (-1, 201, s (2 + 10 * t), asd, ge)).2.2.1)), (o 4, arI E 122 ((it (ms_kiS s t m) (k + 1) (-1, 201, s (2 + 10 * t), asd, ge)).2.2.2.1)), (o 5, arI E 7 stt), (o 6, arI E 12 ((it (ms_kiS s t m) (k + 1) (-1, 201, s (2 + 10 * t), asd, ge)).2.2.2.2))]) (by rfl) ?_
        exact ih38 (k + 1) (by omega) (by omega)
  refine G.lvp (lv' := [(0, .ref (o 0)), (1, .int (nI t)), (2, .int (nI m)), (3, .int (s (2 + 10 * t))), (4, .int 0)]) [2, 3, 4, 1, 0] rfl ?_
  refine G.lve (lv' := [(0, .ref (o 0)), (1, .int (nI t)), (2, .int (nI m)), (3, .int (s (2 + 10 * t))), (4, .int (nI 0))]) (by rfl) ?_
  refine G.we (ws' := [(o 0, moO o ik ((it (ms_kiS s t m) 0 (-1, 201, s (2 + 10 * t), asd, ge)).1) ((it (ms_kiS s t m) 0 (-1, 201, s (2 + 10 * t), asd, ge)).2.1) tp fr tq vl wr), (o 1, arI E 122 (upd s (2 + 10 * t) (it (ms_kiS s t m) 0 (-1, 201, s (2 + 10 * t), asd, ge)).2.2.1)), (o 4, arI E 122 ((it (ms_kiS s t m) 0 (-1, 201, s (2 + 10 * t), asd, ge)).2.2.2.1)), (o 5, arI E 7 stt), (o 6, arI E 12 ((it (ms_kiS s t m) 0 (-1, 201, s (2 + 10 * t), asd, ge)).2.2.2.2))]) (by rw [it_0, updS]) ?_
  exact L38 7 0 (by omega) (by omega)
set_option maxHeartbeats 4000000 in
set_option maxRecDepth 100000 in
theorem c_X4_kindno (l : Launch) (E : EV) (t : Nat) (m : Nat) (o : Nat → Nat) (ik : Int32) (be : Int32) (so : Int32) (tp : Int32) (fr : Int32) (tq : Int32) (vl : Int32) (wr : Int32) (s : Nat → Int32) (asd : Nat → Int32) (stt : Nat → Int32) (ge : Nat → Int32) (h1 : t < 12) (h2 : m < 8) (h3 : ¬ 0 ≤ (ms_ki s t m asd ge).1) : CI l yX4_kind wsX4_kind rmX4_kind E [.ref (o 0), .int (nI t), .int (nI m)] [(o 0, moO o ik be so tp fr tq vl wr), (o 1, arI E 122 s), (o 4, arI E 122 asd), (o 5, arI E 7 stt), (o 6, arI E 12 ge)] [(o 0, moO o ik ((ms_ki s t m asd ge).1) ((ms_ki s t m asd ge).2.1) tp fr tq vl wr), (o 1, arI E 122 s), (o 4, arI E 122 ((ms_ki s t m asd ge).2.2.2.1)), (o 5, arI E 7 (upd stt 3 (stt 3 + 1))), (o 6, arI E 12 ((ms_ki s t m asd ge).2.2.2.2))] ((-1000000004)) := by
  refine CI.of (own := RX4) (cc := cX4_kind) (nL := 5) (rt := (some .int)) (by decide) rfl rfl (Nat.le_of_ble_eq_true rfl) (fun X hX hQ => ?_)
  show G E X 5 0 [(0, .ref (o 0)), (1, .int (nI t)), (2, .int (nI m))] [] [(o 0, moO o ik be so tp fr tq vl wr), (o 1, arI E 122 s), (o 4, arI E 122 asd), (o 5, arI E 7 stt), (o 6, arI E 12 ge)]
  refine G.iload_n hX 1 rfl dX4_kind_0 ?_
  refine G.s0i hX (As := [.int (nI t)]) (st := []) (c_X4_isTreen _ E (x := t) (h1 := by omega)) gX4_kind_X4_isTree cp_X4_isTree (by decide) rfl rfl (Nat.le_of_ble_eq_true rfl) dX4_kind_1 ?_
  refine G.if_eq hX (tgt := 14) (by decide) dX4_kind_4 (fun c4 => absurd c4 (by decide)) (fun _ => ?_)
  refine G.iload_n hX 2 rfl dX4_kind_7 ?_
  refine G.s0i hX (As := [.int (nI m)]) (st := []) (c_X4_isMessagen _ E (x := m) (h1 := by omega)) gX4_kind_X4_isMessage cp_X4_isMessage (by decide) rfl rfl (Nat.le_of_ble_eq_true rfl) dX4_kind_8 ?_
  refine G.if_ne hX (tgt := 21) (by decide) dX4_kind_11 (fun _ => ?_) (fun c11 => absurd c11 (by decide))
  refine G.aload_n hX 0 rfl dX4_kind_21 ?_
  refine G.sipush hX (v := 201) (by decide) dX4_kind_22 ?_
  refine G.vv hX (As := [.int 201]) (st := []) (wr := [(o 1, arI E 122 s), (o 4, arI E 122 asd), (o 5, arI E 7 stt), (o 6, arI E 12 ge)]) (wf := [(o 0, moO o ik ((-1)) 201 tp fr tq vl wr), (o 1, arI E 122 s), (o 4, arI E 122 asd), (o 5, arI E 7 stt), (o 6, arI E 12 ge)]) (q0 := 0) (ci := 4) rfl rfl (c_X4_begins _ E (v := 201) (o := o) (ik := ik) (be := be) (so := so) (tp := tp) (fr := fr) (tq := tq) (vl := vl) (wr := wr) ) gX4_kind_X4_begins cp_X4_begins (by decide) [0] [1, 2, 3, 4] [4, 0, 1, 2, 3] ⟨rfl, rfl, by decide, rfl⟩ rfl rfl (Nat.le_of_ble_eq_true rfl) dX4_kind_25 ?_
  refine G.aload_n hX 0 rfl dX4_kind_28 ?_
  refine G.iload_n hX 1 rfl dX4_kind_29 ?_
  refine G.iconst hX (v := 0) (by decide) dX4_kind_30 ?_
  refine G.vi hX (As := [.int (nI t), .int 0]) (st := []) (wr := [(o 4, arI E 122 asd), (o 5, arI E 7 stt), (o 6, arI E 12 ge)]) (wf := [(o 0, moO o ik ((-1)) 201 tp fr tq vl wr), (o 1, arI E 122 s), (o 4, arI E 122 asd), (o 5, arI E 7 stt), (o 6, arI E 12 ge)]) (q0 := 0) (ci := 4) rfl rfl (c_X4_its _ E (t := t) (w := 0) (o := o) (ik := ik) (be := (-1)) (so := 201) (tp := tp) (fr := fr) (tq := tq) (vl := vl) (wr := wr) (s := s) (h1 := by omega)) gX4_kind_X4_its cp_X4_its (by decide) [0, 1] [2, 3, 4] [3, 4, 0, 1, 2] ⟨rfl, rfl, by decide, rfl⟩ rfl rfl (Nat.le_of_ble_eq_true rfl) dX4_kind_31 ?_
  refine G.ie (y := s (2 + 10 * t)) rfl ?_
  refine G.istore_n hX (lv' := [(3, .int (s (2 + 10 * t))), (0, .ref (o 0)), (1, .int (nI t)), (2, .int (nI m))]) rfl (by decide) rfl dX4_kind_34 ?_
  refine G.iconst hX (v := 0) (by decide) dX4_kind_35 ?_
  refine G.istore hX (lv' := [(4, .int 0), (3, .int (s (2 + 10 * t))), (0, .ref (o 0)), (1, .int (nI t)), (2, .int (nI m))]) (by decide) rfl dX4_kind_36 ?_
  have L38 : ∀ (n : Nat) (k : Nat), k ≤ 6 → 7 ≤ k + n → G E X 5 38 [(0, .ref (o 0)), (1, .int (nI t)), (2, .int (nI m)), (3, .int (s (2 + 10 * t))), (4, .int (nI k))] [] [(o 0, moO o ik ((it (ms_kiS s t m) k (-1, 201, s (2 + 10 * t), asd, ge)).1) ((it (ms_kiS s t m) k (-1, 201, s (2 + 10 * t), asd, ge)).2.1) tp fr tq vl wr), (o 1, arI E 122 (upd s (2 + 10 * t) (it (ms_kiS s t m) k (-1, 201, s (2 + 10 * t), asd, ge)).2.2.1)), (o 4, arI E 122 ((it (ms_kiS s t m) k (-1, 201, s (2 + 10 * t), asd, ge)).2.2.2.1)), (o 5, arI E 7 stt), (o 6, arI E 12 ((it (ms_kiS s t m) k (-1, 201, s (2 + 10 * t), asd, ge)).2.2.2.2))] := by
    intro n
    induction n with
    | zero => intro k hl38_0 hl38_1; exact absurd hl38_1 (by omega)
    | succ n ih38 =>
      intro k hl38_0 hl38_1
      refine G.iload hX 4 rfl dX4_kind_38 ?_
      refine G.iconst hX (v := 5) (by decide) dX4_kind_40 ?_
      refine G.n_gt hX (a := k) (b := 5) (tgt := 74) (by omega) (by omega) (by decide) dX4_kind_41 (fun c41 => ?_) (fun c41 => ?_)
      · obtain rfl : k = 6 := by omega
        refine G.aload_n hX 0 rfl dX4_kind_74 ?_
        refine G.get hX inc_X4_kind_4 0 rfl rfl 0 (by decide) (by decide +kernel) rfl dX4_kind_75 ?_
        refine G.iload_n hX 1 rfl dX4_kind_78 ?_
        refine G.iconst hX (v := 0) (by decide) dX4_kind_79 ?_
        refine G.s0i hX (As := [.int (nI t), .int 0]) (st := [.ref (o 1)]) (c_X4_spotOf _ E (t := t) (w := 0) ) gX4_kind_X4_spotOf cp_X4_spotOf (by decide) rfl rfl (Nat.le_of_ble_eq_true rfl) dX4_kind_80 ?_
        refine G.ie (y := nI (2 + 10 * t)) rfl ?_
        refine G.iload_n hX 3 rfl dX4_kind_83 ?_
        refine G.iast hX (j := 2 + 10 * t) (ws' := [(o 0, moO o ik ((it (ms_kiS s t m) 6 (-1, 201, s (2 + 10 * t), asd, ge)).1) ((it (ms_kiS s t m) 6 (-1, 201, s (2 + 10 * t), asd, ge)).2.1) tp fr tq vl wr), (o 1, arI E 122 (upd (upd s (2 + 10 * t) (it (ms_kiS s t m) 6 (-1, 201, s (2 + 10 * t), asd, ge)).2.2.1) (2 + 10 * t) (s (2 + 10 * t)))), (o 4, arI E 122 ((it (ms_kiS s t m) 6 (-1, 201, s (2 + 10 * t), asd, ge)).2.2.2.1)), (o 5, arI E 7 stt), (o 6, arI E 12 ((it (ms_kiS s t m) 6 (-1, 201, s (2 + 10 * t), asd, ge)).2.2.2.2))]) 1 rfl (by omega) (by omega) rfl rfl dX4_kind_84 ?_
        refine G.we (ws' := [(o 0, moO o ik ((ms_ki s t m asd ge).1) ((ms_ki s t m asd ge).2.1) tp fr tq vl wr), (o 1, arI E 122 s), (o 4, arI E 122 ((ms_ki s t m asd ge).2.2.2.1)), (o 5, arI E 7 stt), (o 6, arI E 12 ((ms_ki s t m asd ge).2.2.2.2))]) (by rw [upd2, updS]; rfl) ?_
        refine G.aload_n hX 0 rfl dX4_kind_85 ?_
        refine G.vi hX (As := []) (st := []) (wr := [(o 1, arI E 122 s), (o 4, arI E 122 ((ms_ki s t m asd ge).2.2.2.1)), (o 6, arI E 12 ((ms_ki s t m asd ge).2.2.2.2))]) (wf := [(o 0, moO o ik ((ms_ki s t m asd ge).1) ((ms_ki s t m asd ge).2.1) tp fr tq vl wr), (o 1, arI E 122 s), (o 4, arI E 122 ((ms_ki s t m asd ge).2.2.2.1)), (o 5, arI E 7 (upd stt 3 (stt 3 + 1))), (o 6, arI E 12 ((ms_ki s t m asd ge).2.2.2.2))]) (q0 := 0) (ci := 4) rfl rfl (c_X4_bestOrNoneno _ E (o := o) (ik := ik) (be := (ms_ki s t m asd ge).1) (so := (ms_ki s t m asd ge).2.1) (tp := tp) (fr := fr) (tq := tq) (vl := vl) (wr := wr) (stt := stt) (h1 := by omega)) gX4_kind_X4_bestOrNone cp_X4_bestOrNone (by decide) [0, 3] [1, 2, 4] [3, 0, 1, 4, 2] ⟨rfl, rfl, by decide, rfl⟩ rfl rfl (Nat.le_of_ble_eq_true rfl) dX4_kind_86 ?_
        exact G.iret hX hQ dX4_kind_89 (by rfl) (by rfl)
      · refine G.aload_n hX 0 rfl dX4_kind_44 ?_
        refine G.get hX inc_X4_kind_4 0 rfl rfl 0 (by decide) (by decide +kernel) rfl dX4_kind_45 ?_
        refine G.iload_n hX 1 rfl dX4_kind_48 ?_
        refine G.iconst hX (v := 0) (by decide) dX4_kind_49 ?_
        refine G.s0i hX (As := [.int (nI t), .int 0]) (st := [.ref (o 1)]) (c_X4_spotOf _ E (t := t) (w := 0) ) gX4_kind_X4_spotOf cp_X4_spotOf (by decide) rfl rfl (Nat.le_of_ble_eq_true rfl) dX4_kind_50 ?_
        refine G.ie (y := nI (2 + 10 * t)) rfl ?_
        refine G.iload hX 4 rfl dX4_kind_53 ?_
        refine G.iast hX (j := 2 + 10 * t) (ws' := [(o 0, moO o ik ((it (ms_kiS s t m) k (-1, 201, s (2 + 10 * t), asd, ge)).1) ((it (ms_kiS s t m) k (-1, 201, s (2 + 10 * t), asd, ge)).2.1) tp fr tq vl wr), (o 1, arI E 122 (upd (upd s (2 + 10 * t) (it (ms_kiS s t m) k (-1, 201, s (2 + 10 * t), asd, ge)).2.2.1) (2 + 10 * t) (nI k))), (o 4, arI E 122 ((it (ms_kiS s t m) k (-1, 201, s (2 + 10 * t), asd, ge)).2.2.2.1)), (o 5, arI E 7 stt), (o 6, arI E 12 ((it (ms_kiS s t m) k (-1, 201, s (2 + 10 * t), asd, ge)).2.2.2.2))]) 1 rfl (by omega) (by omega) rfl rfl dX4_kind_55 ?_
        refine G.we (ws' := [(o 0, moO o ik ((it (ms_kiS s t m) k (-1, 201, s (2 + 10 * t), asd, ge)).1) ((it (ms_kiS s t m) k (-1, 201, s (2 + 10 * t), asd, ge)).2.1) tp fr tq vl wr), (o 1, arI E 122 (ms_kiZ s t k)), (o 4, arI E 122 ((it (ms_kiS s t m) k (-1, 201, s (2 + 10 * t), asd, ge)).2.2.2.1)), (o 5, arI E 7 stt), (o 6, arI E 12 ((it (ms_kiS s t m) k (-1, 201, s (2 + 10 * t), asd, ge)).2.2.2.2))]) (by rw [upd2]; rfl) ?_
        refine G.aload_n hX 0 rfl dX4_kind_56 ?_
        refine G.iload hX 4 rfl dX4_kind_57 ?_
        refine G.aload_n hX 0 rfl dX4_kind_59 ?_
        refine G.iconst hX (v := -1) (by decide) dX4_kind_60 ?_
        refine G.iload_n hX 2 rfl dX4_kind_61 ?_
        refine G.vi hX (As := [.int ((-1)), .int (nI m)]) (st := [.int (nI k), .ref (o 0)]) (wr := [(o 5, arI E 7 stt)]) (wf := [(o 0, moO o ik ((it (ms_kiS s t m) k (-1, 201, s (2 + 10 * t), asd, ge)).1) ((it (ms_kiS s t m) k (-1, 201, s (2 + 10 * t), asd, ge)).2.1) tp fr tq vl wr), (o 1, arI E 122 (ms_kiZ s t k)), (o 4, arI E 122 ((ms_kiZ s t k))), (o 5, arI E 7 stt), (o 6, arI E 12 (ms_gs (ms_kh (ms_kiZ s t k) m) (ms_kiZ s t k) ((it (ms_kiS s t m) k (-1, 201, s (2 + 10 * t), asd, ge)).2.2.2.2)))]) (q0 := 0) (ci := 4) rfl rfl (c_X4_knownInh _ E (m := m) (o := o) (ik := ik) (be := (it (ms_kiS s t m) k (-1, 201, s (2 + 10 * t), asd, ge)).1) (so := (it (ms_kiS s t m) k (-1, 201, s (2 + 10 * t), asd, ge)).2.1) (tp := tp) (fr := fr) (tq := tq) (vl := vl) (wr := wr) (s := ms_kiZ s t k) (asd := (it (ms_kiS s t m) k (-1, 201, s (2 + 10 * t), asd, ge)).2.2.2.1) (ge := (it (ms_kiS s t m) k (-1, 201, s (2 + 10 * t), asd, ge)).2.2.2.2) (h1 := by omega)) gX4_kind_X4_knownIn cp_X4_knownIn (by decide) [0, 1, 2, 4] [3] [1, 2, 3, 0, 4] ⟨rfl, rfl, by decide, rfl⟩ rfl rfl (Nat.le_of_ble_eq_true rfl) dX4_kind_62 ?_
        refine G.vv hX (As := [.int (nI k), .int (nI (ms_kh (ms_kiZ s t k) m))]) (st := []) (wr := [(o 1, arI E 122 (ms_kiZ s t k)), (o 4, arI E 122 ((ms_kiZ s t k))), (o 5, arI E 7 stt), (o 6, arI E 12 (ms_gs (ms_kh (ms_kiZ s t k) m) (ms_kiZ s t k) ((it (ms_kiS s t m) k (-1, 201, s (2 + 10 * t), asd, ge)).2.2.2.2)))]) (wf := [(o 0, moO o ik (trB ((it (ms_kiS s t m) k (-1, 201, s (2 + 10 * t), asd, ge)).1) ((it (ms_kiS s t m) k (-1, 201, s (2 + 10 * t), asd, ge)).2.1) (nI k) (nI (ms_kh (ms_kiZ s t k) m))) (trS ((it (ms_kiS s t m) k (-1, 201, s (2 + 10 * t), asd, ge)).2.1) (nI (ms_kh (ms_kiZ s t k) m))) tp fr tq vl wr), (o 1, arI E 122 (ms_kiZ s t k)), (o 4, arI E 122 ((ms_kiZ s t k))), (o 5, arI E 7 stt), (o 6, arI E 12 (ms_gs (ms_kh (ms_kiZ s t k) m) (ms_kiZ s t k) ((it (ms_kiS s t m) k (-1, 201, s (2 + 10 * t), asd, ge)).2.2.2.2)))]) (q0 := 0) (ci := 4) rfl rfl (c_X4_tries _ E (v := nI k) (w := nI (ms_kh (ms_kiZ s t k) m)) (o := o) (ik := ik) (be := (it (ms_kiS s t m) k (-1, 201, s (2 + 10 * t), asd, ge)).1) (so := (it (ms_kiS s t m) k (-1, 201, s (2 + 10 * t), asd, ge)).2.1) (tp := tp) (fr := fr) (tq := tq) (vl := vl) (wr := wr) ) gX4_kind_X4_tries cp_X4_tries (by decide) [0] [1, 2, 3, 4] [4, 0, 1, 2, 3] ⟨rfl, rfl, by decide, rfl⟩ rfl rfl (Nat.le_of_ble_eq_true rfl) dX4_kind_65 ?_
        refine G.iinc hX (n := 1) (lv' := [(4, .int (nI (k + 1))), (0, .ref (o 0)), (1, .int (nI t)), (2, .int (nI m)), (3, .int (s (2 + 10 * t)))]) 4 rfl (inc_nI k 1 rfl) (by decide) rfl dX4_kind_68 ?_
        refine G.goto hX (tgt := 38) (by decide) dX4_kind_71 ?_
        refine G.lvp (lv' := [(0, .ref (o 0)), (1, .int (nI t)), (2, .int (nI m)), (3, .int (s (2 + 10 * t))), (4, .int (nI (k + 1)))]) [1, 2, 3, 4, 0] rfl ?_
        refine G.lve (lv' := [(0, .ref (o 0)), (1, .int (nI t)), (2, .int (nI m)), (3, .int (s (2 + 10 * t))), (4, .int (nI ((k + 1))))]) (by rfl) ?_
        refine G.we (ws' := [(o 0, moO o ik ((it (ms_kiS s t m) (k + 1) (-1, 201, s (2 + 10 * t), asd, ge)).1) ((it (ms_kiS s t m) (k + 1) (-1, 201, s (2 + 10 * t), asd, ge)).2.1) tp fr tq vl wr), (o 1, arI E 122 (upd s (2 + 10 * t) (it (ms_kiS s t m) (k + 1) (-1, 201, s (2 + 10 * t), asd, ge)).2.2.1)), (o 4, arI E 122 ((it (ms_kiS s t m) (k + 1) (-1, 201, s (2 + 10 * t), asd, ge)).2.2.2.1)), (o 5, arI E 7 stt), (o 6, arI E 12 ((it (ms_kiS s t m) (k + 1) (-1, 201, s (2 + 10 * t), asd, ge)).2.2.2.2))]) (by rfl) ?_
        exact ih38 (k + 1) (by omega) (by omega)
  refine G.lvp (lv' := [(0, .ref (o 0)), (1, .int (nI t)), (2, .int (nI m)), (3, .int (s (2 + 10 * t))), (4, .int 0)]) [2, 3, 4, 1, 0] rfl ?_
  refine G.lve (lv' := [(0, .ref (o 0)), (1, .int (nI t)), (2, .int (nI m)), (3, .int (s (2 + 10 * t))), (4, .int (nI 0))]) (by rfl) ?_
  refine G.we (ws' := [(o 0, moO o ik ((it (ms_kiS s t m) 0 (-1, 201, s (2 + 10 * t), asd, ge)).1) ((it (ms_kiS s t m) 0 (-1, 201, s (2 + 10 * t), asd, ge)).2.1) tp fr tq vl wr), (o 1, arI E 122 (upd s (2 + 10 * t) (it (ms_kiS s t m) 0 (-1, 201, s (2 + 10 * t), asd, ge)).2.2.1)), (o 4, arI E 122 ((it (ms_kiS s t m) 0 (-1, 201, s (2 + 10 * t), asd, ge)).2.2.2.1)), (o 5, arI E 7 stt), (o 6, arI E 12 ((it (ms_kiS s t m) 0 (-1, 201, s (2 + 10 * t), asd, ge)).2.2.2.2))]) (by rw [it_0, updS]) ?_
  exact L38 7 0 (by omega) (by omega)
abbrev rmX4_delay : Room := { frames := 8, cells := 0, slots := 0, locals := 179 }
theorem cp_X4_delay : CP yX4_delay RX4 wsX4_delay 7 1 rmX4_delay := ⟨⟨_, _, _, rfl⟩, rfl, rfl, by decide +kernel⟩
set_option maxHeartbeats 4000000 in
set_option maxRecDepth 100000 in
theorem c_X4_delaybad (l : Launch) (E : EV) (x : Int32) (o : Nat → Nat) (ik : Int32) (be : Int32) (so : Int32) (tp : Int32) (fr : Int32) (tq : Int32) (vl : Int32) (wr : Int32) (stt : Nat → Int32) (h1 : inI x 0 60 = false) : CI l yX4_delay wsX4_delay rmX4_delay E [.ref (o 0), .int x] [(o 0, moO o ik be so tp fr tq vl wr), (o 5, arI E 7 stt)] [(o 0, moO o ik be so tp fr tq vl wr), (o 5, arI E 7 (upd stt 0 (stt 0 + 1)))] ((-1000000001)) := by
  refine CI.of (own := RX4) (cc := cX4_delay) (nL := 7) (rt := (some .int)) (by decide) rfl rfl (Nat.le_of_ble_eq_true rfl) (fun X hX hQ => ?_)
  show G E X 7 0 [(0, .ref (o 0)), (1, .int x)] [] [(o 0, moO o ik be so tp fr tq vl wr), (o 5, arI E 7 stt)]
  refine G.iload_n hX 1 rfl dX4_delay_0 ?_
  refine G.i2l hX dX4_delay_1 ?_
  refine G.lconst hX (v := 0) (by decide) dX4_delay_2 ?_
  refine G.ldc2 hX (v := 60) (by decide +kernel) dX4_delay_3 ?_
  refine G.s0i hX (As := [.long x.toInt64, .long 0, .long 60]) (st := []) (c_X4_in _ E (v := x.toInt64) (lo := 0) (hi := 60) ) gX4_delay_X4_in cp_X4_in (by decide) rfl rfl (Nat.le_of_ble_eq_true rfl) dX4_delay_6 ?_
  refine G.ie (y := bI (inI x 0 60)) rfl ?_
  refine G.b_ne hX (tgt := 19) (by decide) dX4_delay_9 (fun c9 => ?_) (fun c9 => ?_)
  · exact absurd h1 (by simp [c9])
  · refine G.aload_n hX 0 rfl dX4_delay_12 ?_
    refine G.ldc hX (v := -1000000001) (by decide +kernel) dX4_delay_13 ?_
    refine G.vi hX (As := [.int ((-1000000001))]) (st := []) (wr := []) (wf := [(o 0, moO o ik be so tp fr tq vl wr), (o 5, arI E 7 (upd stt 0 (stt 0 + 1)))]) (q0 := 0) (ci := 4) rfl rfl (c_X4_finds0 _ E (o := o) (ik := ik) (be := be) (so := so) (tp := tp) (fr := fr) (tq := tq) (vl := vl) (wr := wr) (stt := stt) ) gX4_delay_X4_finds cp_X4_finds (by decide) [0, 1] [] [0, 1] ⟨rfl, rfl, by decide, rfl⟩ rfl rfl (Nat.le_of_ble_eq_true rfl) dX4_delay_15 ?_
    exact G.iret hX hQ dX4_delay_18 (by rfl) (by rfl)
set_option maxHeartbeats 4000000 in
set_option maxRecDepth 100000 in
theorem c_X4_delayok (l : Launch) (E : EV) (n0 : Nat) (o : Nat → Nat) (ik : Int32) (be : Int32) (so : Int32) (tp : Int32) (fr : Int32) (tq : Int32) (vl : Int32) (wr : Int32) (s : Nat → Int32) (asd : Nat → Int32) (ge : Nat → Int32) (h1 : n0 ≤ 60) : CI l yX4_delay wsX4_delay rmX4_delay E [.ref (o 0), .int (nI n0)] [(o 0, moO o ik be so tp fr tq vl wr), (o 1, arI E 122 s), (o 4, arI E 122 asd), (o 6, arI E 12 ge)] [(o 0, moO o ik be so tp fr tq vl wr), (o 1, arI E 122 s), (o 4, arI E 122 s), (o 6, arI E 12 ((ms_de s n0 ge).2.2))] ((ms_de s n0 ge).1) := by
  refine CI.of (own := RX4) (cc := cX4_delay) (nL := 7) (rt := (some .int)) (by decide) rfl rfl (Nat.le_of_ble_eq_true rfl) (fun X hX hQ => ?_)
  show G E X 7 0 [(0, .ref (o 0)), (1, .int (nI n0))] [] [(o 0, moO o ik be so tp fr tq vl wr), (o 1, arI E 122 s), (o 4, arI E 122 asd), (o 6, arI E 12 ge)]
  refine G.iload_n hX 1 rfl dX4_delay_0 ?_
  refine G.i2l hX dX4_delay_1 ?_
  refine G.le (y := lN n0) (nI_l (by omega)) ?_
  refine G.lconst hX (v := 0) (by decide) dX4_delay_2 ?_
  refine G.ldc2 hX (v := 60) (by decide +kernel) dX4_delay_3 ?_
  refine G.s0i hX (As := [.long (lN n0), .long 0, .long 60]) (st := []) (c_X4_inn _ E (v := n0) (lo := 0) (hi := 60) (h1 := by omega) (h2 := by omega) (h3 := by omega)) gX4_delay_X4_in cp_X4_in (by decide) rfl rfl (Nat.le_of_ble_eq_true rfl) dX4_delay_6 ?_
  refine G.if_ne hX (tgt := 19) (by decide) dX4_delay_9 (fun _ => ?_) (fun c9 => absurd c9 (by decide))
  refine G.iconst hX (v := 0) (by decide) dX4_delay_19 ?_
  refine G.istore_n hX (lv' := [(2, .int 0), (0, .ref (o 0)), (1, .int (nI n0))]) rfl (by decide) rfl dX4_delay_20 ?_
  refine G.iconst hX (v := -1) (by decide) dX4_delay_21 ?_
  refine G.istore_n hX (lv' := [(3, .int ((-1))), (2, .int 0), (0, .ref (o 0)), (1, .int (nI n0))]) rfl (by decide) rfl dX4_delay_22 ?_
  refine G.aload_n hX 2 rfl dX4_delay_23 ?_
  refine G.vv hX (As := []) (st := []) (wr := [(o 6, arI E 12 ge)]) (wf := [(o 0, moO o ik be so tp fr tq vl wr), (o 1, arI E 122 s), (o 4, arI E 122 s), (o 6, arI E 12 ge)]) (q0 := 0) (ci := 4) rfl rfl (c_X4_laysAside _ E (o := o) (ik := ik) (be := be) (so := so) (tp := tp) (fr := fr) (tq := tq) (vl := vl) (wr := wr) (s := s) (asd := asd) ) gX4_delay_X4_laysAside cp_X4_laysAside (by decide) [0, 1, 2] [3] [1, 2, 3, 0] ⟨rfl, rfl, by decide, rfl⟩ rfl rfl (Nat.le_of_ble_eq_true rfl) dX4_delay_24 ?_
  refine G.iconst hX (v := 0) (by decide) dX4_delay_27 ?_
  refine G.istore hX (lv' := [(4, .int 0), (3, .int ((-1))), (2, .int 0), (0, .ref (o 0)), (1, .int (nI n0))]) (by decide) rfl dX4_delay_28 ?_
  have L30 : ∀ (n : Nat) (d : Nat), d ≤ n0 + 1 → n0 + 2 ≤ d + n → G E X 7 30 [(0, .ref (o 0)), (1, .int (nI n0)), (2, .int ((it (ms_deS s n0) d (0, -1, ge)).1)), (3, .int ((it (ms_deS s n0) d (0, -1, ge)).2.1)), (4, .int (nI d))] [] [(o 0, moO o ik be so tp fr tq vl wr), (o 1, arI E 122 s), (o 4, arI E 122 s), (o 6, arI E 12 ((it (ms_deS s n0) d (0, -1, ge)).2.2))] := by
    intro n
    induction n with
    | zero => intro d hl30_0 hl30_1; exact absurd hl30_1 (by omega)
    | succ n ih30 =>
      intro d hl30_0 hl30_1
      refine G.iload hX 4 rfl dX4_delay_30 ?_
      refine G.iload_n hX 1 rfl dX4_delay_32 ?_
      refine G.n_gt hX (a := d) (b := n0) (tgt := 98) (by omega) (by omega) (by decide) dX4_delay_33 (fun c33 => ?_) (fun c33 => ?_)
      · refine G.iload_n hX 2 rfl dX4_delay_98 ?_
        exact G.iret hX hQ dX4_delay_99 (by obtain rfl : d = n0 + 1 := (by omega); rfl) (by obtain rfl : d = n0 + 1 := (by omega); rfl)
      · refine G.aload_n hX 0 rfl dX4_delay_36 ?_
        refine G.iload hX 4 rfl dX4_delay_37 ?_
        refine G.vv hX (As := [.int (nI d)]) (st := []) (wr := [(o 4, arI E 122 s)]) (wf := [(o 0, moO o ik be so tp fr tq vl wr), (o 1, arI E 122 (ms_ys d s)), (o 4, arI E 122 s), (o 6, arI E 12 (ms_gs d s ((it (ms_deS s n0) d (0, -1, ge)).2.2)))]) (q0 := 0) (ci := 4) rfl rfl (c_X4_yearsGo _ E (n0 := d) (o := o) (ik := ik) (be := be) (so := so) (tp := tp) (fr := fr) (tq := tq) (vl := vl) (wr := wr) (s := s) (ge := (it (ms_deS s n0) d (0, -1, ge)).2.2) (h1 := by omega)) gX4_delay_X4_yearsGo cp_X4_yearsGo (by decide) [0, 1, 3] [2] [1, 2, 0, 3] ⟨rfl, rfl, by decide, rfl⟩ rfl rfl (Nat.le_of_ble_eq_true rfl) dX4_delay_39 ?_
        refine G.aload_n hX 0 rfl dX4_delay_42 ?_
        refine G.vi hX (As := []) (st := []) (wr := [(o 4, arI E 122 s), (o 6, arI E 12 (ms_gs d s ((it (ms_deS s n0) d (0, -1, ge)).2.2)))]) (wf := [(o 0, moO o ik be so tp fr tq vl wr), (o 1, arI E 122 ((ms_bl (ms_ys d s)).1)), (o 4, arI E 122 s), (o 6, arI E 12 (ms_gs d s ((it (ms_deS s n0) d (0, -1, ge)).2.2)))]) (q0 := 0) (ci := 4) rfl rfl (c_X4_blows _ E (o := o) (ik := ik) (be := be) (so := so) (tp := tp) (fr := fr) (tq := tq) (vl := vl) (wr := wr) (s := ms_ys d s) ) gX4_delay_X4_blows cp_X4_blows (by decide) [0, 1] [2, 3] [2, 3, 0, 1] ⟨rfl, rfl, by decide, rfl⟩ rfl rfl (Nat.le_of_ble_eq_true rfl) dX4_delay_43 ?_
        refine G.istore hX (lv' := [(5, .int (nI ((ms_bl (ms_ys d s)).2))), (0, .ref (o 0)), (1, .int (nI n0)), (2, .int ((it (ms_deS s n0) d (0, -1, ge)).1)), (3, .int ((it (ms_deS s n0) d (0, -1, ge)).2.1)), (4, .int (nI d))]) (by decide) rfl dX4_delay_46 ?_
        refine G.aload_n hX 1 rfl dX4_delay_48 ?_
        refine G.iload_n hX 2 rfl dX4_delay_49 ?_
        refine G.iload hX 5 rfl dX4_delay_50 ?_
        refine G.isub hX dX4_delay_52 ?_
        refine G.ie (pk_sub (a := n0) (b := d) (by omega)) ?_
        refine G.vv hX (As := [.int (nI (n0 - d))]) (st := []) (wr := [(o 4, arI E 122 s)]) (wf := [(o 0, moO o ik be so tp fr tq vl wr), (o 1, arI E 122 (ms_ys (n0 - d) ((ms_bl (ms_ys d s)).1))), (o 4, arI E 122 s), (o 6, arI E 12 (ms_gs (n0 - d) ((ms_bl (ms_ys d s)).1) (ms_gs d s ((it (ms_deS s n0) d (0, -1, ge)).2.2))))]) (q0 := 0) (ci := 4) rfl rfl (c_X4_yearsGo _ E (n0 := n0 - d) (o := o) (ik := ik) (be := be) (so := so) (tp := tp) (fr := fr) (tq := tq) (vl := vl) (wr := wr) (s := (ms_bl (ms_ys d s)).1) (ge := ms_gs d s ((it (ms_deS s n0) d (0, -1, ge)).2.2)) (h1 := by omega)) gX4_delay_X4_yearsGo cp_X4_yearsGo (by decide) [0, 1, 3] [2] [1, 2, 0, 3] ⟨rfl, rfl, by decide, rfl⟩ rfl rfl (Nat.le_of_ble_eq_true rfl) dX4_delay_53 ?_
        refine G.aload_n hX 1 rfl dX4_delay_56 ?_
        refine G.aload_n hX 1 rfl dX4_delay_57 ?_
        refine G.vi hX (As := []) (st := [.ref (o 0)]) (wr := [(o 4, arI E 122 s), (o 6, arI E 12 (ms_gs (n0 - d) ((ms_bl (ms_ys d s)).1) (ms_gs d s ((it (ms_deS s n0) d (0, -1, ge)).2.2))))]) (wf := [(o 0, moO o ik be so tp fr tq vl wr), (o 1, arI E 122 (ms_ys (n0 - d) ((ms_bl (ms_ys d s)).1))), (o 4, arI E 122 s), (o 6, arI E 12 (ms_gs (n0 - d) ((ms_bl (ms_ys d s)).1) (ms_gs d s ((it (ms_deS s n0) d (0, -1, ge)).2.2))))]) (q0 := 0) (ci := 4) rfl rfl (c_X4_knownTogether _ E (o := o) (ik := ik) (be := be) (so := so) (tp := tp) (fr := fr) (tq := tq) (vl := vl) (wr := wr) (s := ms_ys (n0 - d) ((ms_bl (ms_ys d s)).1)) ) gX4_delay_X4_knownTogether cp_X4_knownTogether (by decide) [0, 1] [2, 3] [2, 3, 0, 1] ⟨rfl, rfl, by decide, rfl⟩ rfl rfl (Nat.le_of_ble_eq_true rfl) dX4_delay_58 ?_
        refine G.vi hX (As := [.int (nI (ms_tog (ms_ys (n0 - d) ((ms_bl (ms_ys d s)).1))))]) (st := []) (wr := [(o 6, arI E 12 (ms_gs (n0 - d) ((ms_bl (ms_ys d s)).1) (ms_gs d s ((it (ms_deS s n0) d (0, -1, ge)).2.2))))]) (wf := [(o 0, moO o ik be so tp fr tq vl wr), (o 1, arI E 122 s), (o 4, arI E 122 s), (o 6, arI E 12 (ms_gs (n0 - d) ((ms_bl (ms_ys d s)).1) (ms_gs d s ((it (ms_deS s n0) d (0, -1, ge)).2.2))))]) (q0 := 0) (ci := 4) rfl rfl (c_X4_takesBack _ E (v := nI (ms_tog (ms_ys (n0 - d) ((ms_bl (ms_ys d s)).1)))) (o := o) (ik := ik) (be := be) (so := so) (tp := tp) (fr := fr) (tq := tq) (vl := vl) (wr := wr) (s := ms_ys (n0 - d) ((ms_bl (ms_ys d s)).1)) (asd := s) ) gX4_delay_X4_takesBack cp_X4_takesBack (by decide) [0, 1, 2] [3] [1, 2, 3, 0] ⟨rfl, rfl, by decide, rfl⟩ rfl rfl (Nat.le_of_ble_eq_true rfl) dX4_delay_61 ?_
        refine G.ie (y := nI (ms_deW s n0 d)) (by rfl) ?_
        refine G.istore hX (lv' := [(6, .int (nI (ms_deW s n0 d))), (5, .int (nI ((ms_bl (ms_ys d s)).2))), (0, .ref (o 0)), (1, .int (nI n0)), (2, .int ((it (ms_deS s n0) d (0, -1, ge)).1)), (3, .int ((it (ms_deS s n0) d (0, -1, ge)).2.1)), (4, .int (nI d))]) (by decide) rfl dX4_delay_64 ?_
        have J78 : G E X 7 78 [(0, .ref (o 0)), (1, .int (nI n0)), (3, .int ((it (ms_deS s n0) d (0, -1, ge)).2.1)), (4, .int (nI d)), (6, .int (nI (ms_deW s n0 d)))] [.int ((it (ms_deS s n0) (d + 1) (0, -1, ge)).1)] [(o 0, moO o ik be so tp fr tq vl wr), (o 1, arI E 122 s), (o 4, arI E 122 s), (o 6, arI E 12 (ms_gs (n0 - d) ((ms_bl (ms_ys d s)).1) (ms_gs d s ((it (ms_deS s n0) d (0, -1, ge)).2.2))))] := by
          refine G.istore_n hX (lv' := [(2, .int ((it (ms_deS s n0) (d + 1) (0, -1, ge)).1)), (0, .ref (o 0)), (1, .int (nI n0)), (3, .int ((it (ms_deS s n0) d (0, -1, ge)).2.1)), (4, .int (nI d)), (6, .int (nI (ms_deW s n0 d)))]) rfl (by decide) rfl dX4_delay_78 ?_
          have J91 : G E X 7 91 [(0, .ref (o 0)), (1, .int (nI n0)), (2, .int ((it (ms_deS s n0) (d + 1) (0, -1, ge)).1)), (4, .int (nI d))] [.int ((it (ms_deS s n0) (d + 1) (0, -1, ge)).2.1)] [(o 0, moO o ik be so tp fr tq vl wr), (o 1, arI E 122 s), (o 4, arI E 122 s), (o 6, arI E 12 (ms_gs (n0 - d) ((ms_bl (ms_ys d s)).1) (ms_gs d s ((it (ms_deS s n0) d (0, -1, ge)).2.2))))] := by
            refine G.istore_n hX (lv' := [(3, .int ((it (ms_deS s n0) (d + 1) (0, -1, ge)).2.1)), (0, .ref (o 0)), (1, .int (nI n0)), (2, .int ((it (ms_deS s n0) (d + 1) (0, -1, ge)).1)), (4, .int (nI d))]) rfl (by decide) rfl dX4_delay_91 ?_
            refine G.iinc hX (n := 1) (lv' := [(4, .int (nI (d + 1))), (3, .int ((it (ms_deS s n0) (d + 1) (0, -1, ge)).2.1)), (0, .ref (o 0)), (1, .int (nI n0)), (2, .int ((it (ms_deS s n0) (d + 1) (0, -1, ge)).1))]) 4 rfl (inc_nI d 1 rfl) (by decide) rfl dX4_delay_92 ?_
            refine G.goto hX (tgt := 30) (by decide) dX4_delay_95 ?_
            refine G.lvp (lv' := [(0, .ref (o 0)), (1, .int (nI n0)), (2, .int ((it (ms_deS s n0) (d + 1) (0, -1, ge)).1)), (3, .int ((it (ms_deS s n0) (d + 1) (0, -1, ge)).2.1)), (4, .int (nI (d + 1)))]) [2, 3, 4, 1, 0] rfl ?_
            refine G.lve (lv' := [(0, .ref (o 0)), (1, .int (nI n0)), (2, .int ((it (ms_deS s n0) (d + 1) (0, -1, ge)).1)), (3, .int ((it (ms_deS s n0) (d + 1) (0, -1, ge)).2.1)), (4, .int (nI ((d + 1))))]) (by rfl) ?_
            refine G.we (ws' := [(o 0, moO o ik be so tp fr tq vl wr), (o 1, arI E 122 s), (o 4, arI E 122 s), (o 6, arI E 12 ((it (ms_deS s n0) (d + 1) (0, -1, ge)).2.2))]) (by rfl) ?_
            exact ih30 (d + 1) (by omega) (by omega)
          refine G.iload hX 5 rfl dX4_delay_79 ?_
          refine G.iload_n hX 3 rfl dX4_delay_81 ?_
          refine G.icmp_le hX (tgt := 90) (by decide) dX4_delay_82 (fun c82 => ?_) (fun c82 => ?_)
          · refine G.iload_n hX 3 rfl dX4_delay_90 ?_
            refine G.lvp (lv' := [(0, .ref (o 0)), (1, .int (nI n0)), (2, .int ((it (ms_deS s n0) (d + 1) (0, -1, ge)).1)), (4, .int (nI d))]) [1, 2, 0, 4] rfl ?_
            refine G.ie (y := (it (ms_deS s n0) (d + 1) (0, -1, ge)).2.1) (by first | rfl | (simp only [it_s, ms_deS, ltS, c33, c82, ↓reduceIte, Bool.not_true, Bool.not_false, Bool.and_true, Bool.true_and, Bool.and_false, Bool.false_and, Bool.or_true, Bool.true_or, Bool.or_false, Bool.false_or, decide_true, decide_false, not_true_eq_false, not_false_eq_true, Bool.false_eq_true, Bool.true_eq_false]; done) | (simp only [it_s, ms_deS, ltS, c33, c82, ↓reduceIte, Bool.not_true, Bool.not_false, Bool.and_true, Bool.true_and, Bool.and_false, Bool.false_and, Bool.or_true, Bool.true_or, Bool.or_false, Bool.false_or, decide_true, decide_false, not_true_eq_false, not_false_eq_true, Bool.false_eq_true, Bool.true_eq_false]; rfl) | (simp [it_s, ms_deS, ltS, c33, c82]; done)) ?_
            exact J91
          · refine G.iload hX 5 rfl dX4_delay_85 ?_
            refine G.goto hX (tgt := 91) (by decide) dX4_delay_87 ?_
            refine G.lvp (lv' := [(0, .ref (o 0)), (1, .int (nI n0)), (2, .int ((it (ms_deS s n0) (d + 1) (0, -1, ge)).1)), (4, .int (nI d))]) [1, 2, 0, 4] rfl ?_
            refine G.ie (y := (it (ms_deS s n0) (d + 1) (0, -1, ge)).2.1) (by first | rfl | (simp only [it_s, ms_deS, ltS, c33, c82, ↓reduceIte, Bool.not_true, Bool.not_false, Bool.and_true, Bool.true_and, Bool.and_false, Bool.false_and, Bool.or_true, Bool.true_or, Bool.or_false, Bool.false_or, decide_true, decide_false, not_true_eq_false, not_false_eq_true, Bool.false_eq_true, Bool.true_eq_false]; done) | (simp only [it_s, ms_deS, ltS, c33, c82, ↓reduceIte, Bool.not_true, Bool.not_false, Bool.and_true, Bool.true_and, Bool.and_false, Bool.false_and, Bool.or_true, Bool.true_or, Bool.or_false, Bool.false_or, decide_true, decide_false, not_true_eq_false, not_false_eq_true, Bool.false_eq_true, Bool.true_eq_false]; rfl) | (simp [it_s, ms_deS, ltS, c33, c82]; done)) ?_
            exact J91
        refine G.iload hX 0 rfl dX4_delay_66 ?_
        refine G.iload_n hX 5 rfl dX4_delay_68 ?_
        refine G.icmp_le hX (tgt := 77) (by decide) dX4_delay_69 (fun c69 => ?_) (fun c69 => ?_)
        · refine G.iload_n hX 4 rfl dX4_delay_77 ?_
          refine G.lvp (lv' := [(0, .ref (o 0)), (1, .int (nI n0)), (3, .int ((it (ms_deS s n0) d (0, -1, ge)).2.1)), (4, .int (nI d)), (6, .int (nI (ms_deW s n0 d)))]) [2, 3, 5, 6, 0] rfl ?_
          refine G.ie (y := (it (ms_deS s n0) (d + 1) (0, -1, ge)).1) (by first | rfl | (simp only [it_s, ms_deS, ltB, c33, c69, ↓reduceIte, Bool.not_true, Bool.not_false, Bool.and_true, Bool.true_and, Bool.and_false, Bool.false_and, Bool.or_true, Bool.true_or, Bool.or_false, Bool.false_or, decide_true, decide_false, not_true_eq_false, not_false_eq_true, Bool.false_eq_true, Bool.true_eq_false]; done) | (simp only [it_s, ms_deS, ltB, c33, c69, ↓reduceIte, Bool.not_true, Bool.not_false, Bool.and_true, Bool.true_and, Bool.and_false, Bool.false_and, Bool.or_true, Bool.true_or, Bool.or_false, Bool.false_or, decide_true, decide_false, not_true_eq_false, not_false_eq_true, Bool.false_eq_true, Bool.true_eq_false]; rfl) | (simp [it_s, ms_deS, ltB, c33, c69]; done)) ?_
          exact J78
        · refine G.iload hX 6 rfl dX4_delay_72 ?_
          refine G.goto hX (tgt := 78) (by decide) dX4_delay_74 ?_
          refine G.lvp (lv' := [(0, .ref (o 0)), (1, .int (nI n0)), (3, .int ((it (ms_deS s n0) d (0, -1, ge)).2.1)), (4, .int (nI d)), (6, .int (nI (ms_deW s n0 d)))]) [2, 3, 5, 6, 0] rfl ?_
          refine G.ie (y := (it (ms_deS s n0) (d + 1) (0, -1, ge)).1) (by first | rfl | (simp only [it_s, ms_deS, ltB, c33, c69, ↓reduceIte, Bool.not_true, Bool.not_false, Bool.and_true, Bool.true_and, Bool.and_false, Bool.false_and, Bool.or_true, Bool.true_or, Bool.or_false, Bool.false_or, decide_true, decide_false, not_true_eq_false, not_false_eq_true, Bool.false_eq_true, Bool.true_eq_false]; done) | (simp only [it_s, ms_deS, ltB, c33, c69, ↓reduceIte, Bool.not_true, Bool.not_false, Bool.and_true, Bool.true_and, Bool.and_false, Bool.false_and, Bool.or_true, Bool.true_or, Bool.or_false, Bool.false_or, decide_true, decide_false, not_true_eq_false, not_false_eq_true, Bool.false_eq_true, Bool.true_eq_false]; rfl) | (simp [it_s, ms_deS, ltB, c33, c69]; done)) ?_
          exact J78
  refine G.lvp (lv' := [(0, .ref (o 0)), (1, .int (nI n0)), (2, .int 0), (3, .int ((-1))), (4, .int 0)]) [3, 4, 2, 1, 0] rfl ?_
  refine G.lve (lv' := [(0, .ref (o 0)), (1, .int (nI n0)), (2, .int ((it (ms_deS s n0) 0 (0, -1, ge)).1)), (3, .int ((it (ms_deS s n0) 0 (0, -1, ge)).2.1)), (4, .int (nI 0))]) (by rfl) ?_
  refine G.we (ws' := [(o 0, moO o ik be so tp fr tq vl wr), (o 1, arI E 122 s), (o 4, arI E 122 s), (o 6, arI E 12 ((it (ms_deS s n0) 0 (0, -1, ge)).2.2))]) (by rfl) ?_
  exact L30 (n0 + 2) 0 (by omega) (by omega)
abbrev rmX4_side : Room := { frames := 8, cells := 0, slots := 0, locals := 180 }
theorem cp_X4_side : CP yX4_side RX4 wsX4_side 3 1 rmX4_side := ⟨⟨_, _, _, rfl⟩, rfl, rfl, by decide +kernel⟩
theorem inc_X4_side_4 : ∀ w ∈ u_ws RX4 TX4 19, w ∈ wsX4_side := by decide +kernel
set_option maxHeartbeats 4000000 in
set_option maxRecDepth 100000 in
theorem c_X4_sidebad (l : Launch) (E : EV) (x : Int32) (o : Nat → Nat) (ik : Int32) (be : Int32) (so : Int32) (tp : Int32) (fr : Int32) (tq : Int32) (vl : Int32) (wr : Int32) (stt : Nat → Int32) (h1 : inI x 0 7 = false) : CI l yX4_side wsX4_side rmX4_side E [.ref (o 0), .int x] [(o 0, moO o ik be so tp fr tq vl wr), (o 5, arI E 7 stt)] [(o 0, moO o ik be so tp fr tq vl wr), (o 5, arI E 7 (upd stt 0 (stt 0 + 1)))] ((-1000000001)) := by
  refine CI.of (own := RX4) (cc := cX4_side) (nL := 3) (rt := (some .int)) (by decide) rfl rfl (Nat.le_of_ble_eq_true rfl) (fun X hX hQ => ?_)
  show G E X 3 0 [(0, .ref (o 0)), (1, .int x)] [] [(o 0, moO o ik be so tp fr tq vl wr), (o 5, arI E 7 stt)]
  refine G.iload_n hX 1 rfl dX4_side_0 ?_
  refine G.s0i hX (As := [.int x]) (st := []) (c_X4_isMessage _ E (x := x) ) gX4_side_X4_isMessage cp_X4_isMessage (by decide) rfl rfl (Nat.le_of_ble_eq_true rfl) dX4_side_1 ?_
  refine G.b_ne hX (tgt := 14) (by decide) dX4_side_4 (fun c4 => ?_) (fun c4 => ?_)
  · exact absurd h1 (by simp [c4])
  · refine G.aload_n hX 0 rfl dX4_side_7 ?_
    refine G.ldc hX (v := -1000000001) (by decide +kernel) dX4_side_8 ?_
    refine G.vi hX (As := [.int ((-1000000001))]) (st := []) (wr := []) (wf := [(o 0, moO o ik be so tp fr tq vl wr), (o 5, arI E 7 (upd stt 0 (stt 0 + 1)))]) (q0 := 0) (ci := 4) rfl rfl (c_X4_finds0 _ E (o := o) (ik := ik) (be := be) (so := so) (tp := tp) (fr := fr) (tq := tq) (vl := vl) (wr := wr) (stt := stt) ) gX4_side_X4_finds cp_X4_finds (by decide) [0, 1] [] [0, 1] ⟨rfl, rfl, by decide, rfl⟩ rfl rfl (Nat.le_of_ble_eq_true rfl) dX4_side_10 ?_
    exact G.iret hX hQ dX4_side_13 (by rfl) (by rfl)
set_option maxHeartbeats 4000000 in
set_option maxRecDepth 100000 in
theorem c_X4_sidest (l : Launch) (E : EV) (m : Nat) (o : Nat → Nat) (ik : Int32) (be : Int32) (so : Int32) (tp : Int32) (fr : Int32) (tq : Int32) (vl : Int32) (wr : Int32) (s : Nat → Int32) (stt : Nat → Int32) (h1 : m < 8) (h2 : 0 < ms_kn s m) : CI l yX4_side wsX4_side rmX4_side E [.ref (o 0), .int (nI m)] [(o 0, moO o ik be so tp fr tq vl wr), (o 1, arI E 122 s), (o 5, arI E 7 stt)] [(o 0, moO o ik be so tp fr tq vl wr), (o 1, arI E 122 s), (o 5, arI E 7 (upd stt 4 (stt 4 + 1)))] ((-1000000005)) := by
  refine CI.of (own := RX4) (cc := cX4_side) (nL := 3) (rt := (some .int)) (by decide) rfl rfl (Nat.le_of_ble_eq_true rfl) (fun X hX hQ => ?_)
  show G E X 3 0 [(0, .ref (o 0)), (1, .int (nI m))] [] [(o 0, moO o ik be so tp fr tq vl wr), (o 1, arI E 122 s), (o 5, arI E 7 stt)]
  refine G.iload_n hX 1 rfl dX4_side_0 ?_
  refine G.s0i hX (As := [.int (nI m)]) (st := []) (c_X4_isMessagen _ E (x := m) (h1 := by omega)) gX4_side_X4_isMessage cp_X4_isMessage (by decide) rfl rfl (Nat.le_of_ble_eq_true rfl) dX4_side_1 ?_
  refine G.if_ne hX (tgt := 14) (by decide) dX4_side_4 (fun _ => ?_) (fun c4 => absurd c4 (by decide))
  refine G.aload_n hX 0 rfl dX4_side_14 ?_
  refine G.iload_n hX 1 rfl dX4_side_15 ?_
  refine G.vi hX (As := [.int (nI m)]) (st := []) (wr := [(o 5, arI E 7 stt)]) (wf := [(o 0, moO o ik be so tp fr tq vl wr), (o 1, arI E 122 s), (o 5, arI E 7 stt)]) (q0 := 0) (ci := 4) rfl rfl (c_X4_knowing _ E (m := m) (o := o) (ik := ik) (be := be) (so := so) (tp := tp) (fr := fr) (tq := tq) (vl := vl) (wr := wr) (s := s) (h1 := by omega)) gX4_side_X4_knowing cp_X4_knowing (by decide) [0, 1] [2] [1, 2, 0] ⟨rfl, rfl, by decide, rfl⟩ rfl rfl (Nat.le_of_ble_eq_true rfl) dX4_side_16 ?_
  refine G.if_le hX (tgt := 29) (by decide) dX4_side_19 (fun c19 => ?_) (fun c19 => ?_)
  · exact absurd h2 (by have := (nI_leI (a := ms_kn s m) (b := 0) (Nat.lt_of_le_of_lt (kn_le_i s m 12) (by omega)) (by omega)).mp c19; omega)
  · refine G.aload_n hX 0 rfl dX4_side_22 ?_
    refine G.ldc hX (v := -1000000005) (by decide +kernel) dX4_side_23 ?_
    refine G.vi hX (As := [.int ((-1000000005))]) (st := []) (wr := [(o 1, arI E 122 s)]) (wf := [(o 0, moO o ik be so tp fr tq vl wr), (o 1, arI E 122 s), (o 5, arI E 7 (upd stt 4 (stt 4 + 1)))]) (q0 := 0) (ci := 4) rfl rfl (c_X4_finds4 _ E (o := o) (ik := ik) (be := be) (so := so) (tp := tp) (fr := fr) (tq := tq) (vl := vl) (wr := wr) (stt := stt) ) gX4_side_X4_finds cp_X4_finds (by decide) [0, 2] [1] [1, 0, 2] ⟨rfl, rfl, by decide, rfl⟩ rfl rfl (Nat.le_of_ble_eq_true rfl) dX4_side_25 ?_
    exact G.iret hX hQ dX4_side_28 (by rfl) (by rfl)
set_option maxHeartbeats 4000000 in
set_option maxRecDepth 100000 in
theorem c_X4_sideok (l : Launch) (E : EV) (m : Nat) (o : Nat → Nat) (ik : Int32) (be : Int32) (so : Int32) (tp : Int32) (fr : Int32) (tq : Int32) (vl : Int32) (wr : Int32) (s : Nat → Int32) (asd : Nat → Int32) (stt : Nat → Int32) (ge : Nat → Int32) (h1 : m < 8) (h2 : ms_kn s m = 0) (h3 : ∀ t, t < 2 → s (2 + 10 * t + (2 + m)) = -1) (h4 : 0 ≤ (ms_si s m asd ge).1) : CI l yX4_side wsX4_side rmX4_side E [.ref (o 0), .int (nI m)] [(o 0, moO o ik be so tp fr tq vl wr), (o 1, arI E 122 s), (o 4, arI E 122 asd), (o 5, arI E 7 stt), (o 6, arI E 12 ge)] [(o 0, moO o ik ((ms_si s m asd ge).1) ((ms_si s m asd ge).2.1) tp fr tq vl wr), (o 1, arI E 122 s), (o 4, arI E 122 ((ms_si s m asd ge).2.2.1)), (o 5, arI E 7 stt), (o 6, arI E 12 ((ms_si s m asd ge).2.2.2))] ((ms_si s m asd ge).1) := by
  refine CI.of (own := RX4) (cc := cX4_side) (nL := 3) (rt := (some .int)) (by decide) rfl rfl (Nat.le_of_ble_eq_true rfl) (fun X hX hQ => ?_)
  show G E X 3 0 [(0, .ref (o 0)), (1, .int (nI m))] [] [(o 0, moO o ik be so tp fr tq vl wr), (o 1, arI E 122 s), (o 4, arI E 122 asd), (o 5, arI E 7 stt), (o 6, arI E 12 ge)]
  refine G.iload_n hX 1 rfl dX4_side_0 ?_
  refine G.s0i hX (As := [.int (nI m)]) (st := []) (c_X4_isMessagen _ E (x := m) (h1 := by omega)) gX4_side_X4_isMessage cp_X4_isMessage (by decide) rfl rfl (Nat.le_of_ble_eq_true rfl) dX4_side_1 ?_
  refine G.if_ne hX (tgt := 14) (by decide) dX4_side_4 (fun _ => ?_) (fun c4 => absurd c4 (by decide))
  refine G.aload_n hX 0 rfl dX4_side_14 ?_
  refine G.iload_n hX 1 rfl dX4_side_15 ?_
  refine G.vi hX (As := [.int (nI m)]) (st := []) (wr := [(o 4, arI E 122 asd), (o 5, arI E 7 stt), (o 6, arI E 12 ge)]) (wf := [(o 0, moO o ik be so tp fr tq vl wr), (o 1, arI E 122 s), (o 4, arI E 122 asd), (o 5, arI E 7 stt), (o 6, arI E 12 ge)]) (q0 := 0) (ci := 4) rfl rfl (c_X4_knowing _ E (m := m) (o := o) (ik := ik) (be := be) (so := so) (tp := tp) (fr := fr) (tq := tq) (vl := vl) (wr := wr) (s := s) (h1 := by omega)) gX4_side_X4_knowing cp_X4_knowing (by decide) [0, 1] [2, 3, 4] [3, 4, 0, 1, 2] ⟨rfl, rfl, by decide, rfl⟩ rfl rfl (Nat.le_of_ble_eq_true rfl) dX4_side_16 ?_
  refine G.if_le hX (tgt := 29) (by decide) dX4_side_19 (fun c19 => ?_) (fun c19 => ?_)
  · refine G.aload_n hX 0 rfl dX4_side_29 ?_
    refine G.sipush hX (v := 201) (by decide) dX4_side_30 ?_
    refine G.vv hX (As := [.int 201]) (st := []) (wr := [(o 1, arI E 122 s), (o 4, arI E 122 asd), (o 5, arI E 7 stt), (o 6, arI E 12 ge)]) (wf := [(o 0, moO o ik ((-1)) 201 tp fr tq vl wr), (o 1, arI E 122 s), (o 4, arI E 122 asd), (o 5, arI E 7 stt), (o 6, arI E 12 ge)]) (q0 := 0) (ci := 4) rfl rfl (c_X4_begins _ E (v := 201) (o := o) (ik := ik) (be := be) (so := so) (tp := tp) (fr := fr) (tq := tq) (vl := vl) (wr := wr) ) gX4_side_X4_begins cp_X4_begins (by decide) [0] [1, 2, 3, 4] [4, 0, 1, 2, 3] ⟨rfl, rfl, by decide, rfl⟩ rfl rfl (Nat.le_of_ble_eq_true rfl) dX4_side_33 ?_
    refine G.iconst hX (v := 0) (by decide) dX4_side_36 ?_
    refine G.istore_n hX (lv' := [(2, .int 0), (0, .ref (o 0)), (1, .int (nI m))]) rfl (by decide) rfl dX4_side_37 ?_
    have L38 : ∀ (n : Nat) (t : Nat), t ≤ 2 → 3 ≤ t + n → G E X 3 38 [(0, .ref (o 0)), (1, .int (nI m)), (2, .int (nI t))] [] [(o 0, moO o ik ((it (ms_siS s m) t (-1, 201, asd, ge)).1) ((it (ms_siS s m) t (-1, 201, asd, ge)).2.1) tp fr tq vl wr), (o 1, arI E 122 s), (o 4, arI E 122 ((it (ms_siS s m) t (-1, 201, asd, ge)).2.2.1)), (o 5, arI E 7 stt), (o 6, arI E 12 ((it (ms_siS s m) t (-1, 201, asd, ge)).2.2.2))] := by
      intro n
      induction n with
      | zero => intro t hl38_0 hl38_1; exact absurd hl38_1 (by omega)
      | succ n ih38 =>
        intro t hl38_0 hl38_1
        refine G.iload_n hX 2 rfl dX4_side_38 ?_
        refine G.iconst hX (v := 2) (by decide) dX4_side_39 ?_
        refine G.n_ge hX (a := t) (b := 2) (tgt := 91) (by omega) (by omega) (by decide) dX4_side_40 (fun c40 => ?_) (fun c40 => ?_)
        · obtain rfl : t = 2 := by omega
          refine G.we (ws' := [(o 0, moO o ik ((ms_si s m asd ge).1) ((ms_si s m asd ge).2.1) tp fr tq vl wr), (o 1, arI E 122 s), (o 4, arI E 122 ((ms_si s m asd ge).2.2.1)), (o 5, arI E 7 stt), (o 6, arI E 12 ((ms_si s m asd ge).2.2.2))]) (by rfl) ?_
          refine G.aload_n hX 0 rfl dX4_side_91 ?_
          refine G.vi hX (As := []) (st := []) (wr := [(o 1, arI E 122 s), (o 4, arI E 122 ((ms_si s m asd ge).2.2.1)), (o 5, arI E 7 stt), (o 6, arI E 12 ((ms_si s m asd ge).2.2.2))]) (wf := [(o 0, moO o ik ((ms_si s m asd ge).1) ((ms_si s m asd ge).2.1) tp fr tq vl wr), (o 1, arI E 122 s), (o 4, arI E 122 ((ms_si s m asd ge).2.2.1)), (o 5, arI E 7 stt), (o 6, arI E 12 ((ms_si s m asd ge).2.2.2))]) (q0 := 0) (ci := 4) rfl rfl (c_X4_bestOrNoneok _ E (o := o) (ik := ik) (be := (ms_si s m asd ge).1) (so := (ms_si s m asd ge).2.1) (tp := tp) (fr := fr) (tq := tq) (vl := vl) (wr := wr) (h1 := by omega)) gX4_side_X4_bestOrNone cp_X4_bestOrNone (by decide) [0] [1, 2, 3, 4] [4, 0, 1, 2, 3] ⟨rfl, rfl, by decide, rfl⟩ rfl rfl (Nat.le_of_ble_eq_true rfl) dX4_side_92 ?_
          exact G.iret hX hQ dX4_side_95 (by first | rfl | (simp only [c19, c40, ↓reduceIte, Bool.not_true, Bool.not_false, Bool.and_true, Bool.true_and, Bool.and_false, Bool.false_and, Bool.or_true, Bool.true_or, Bool.or_false, Bool.false_or, decide_true, decide_false, not_true_eq_false, not_false_eq_true, Bool.false_eq_true, Bool.true_eq_false]; done) | (simp only [c19, c40, ↓reduceIte, Bool.not_true, Bool.not_false, Bool.and_true, Bool.true_and, Bool.and_false, Bool.false_and, Bool.or_true, Bool.true_or, Bool.or_false, Bool.false_or, decide_true, decide_false, not_true_eq_false, not_false_eq_true, Bool.false_eq_true, Bool.true_eq_false]; rfl) | (simp [c19, c40]; done)) (by rfl)
        · refine G.aload_n hX 0 rfl dX4_side_43 ?_
          refine G.get hX inc_X4_side_4 0 rfl rfl 0 (by decide) (by decide +kernel) rfl dX4_side_44 ?_
          refine G.iload_n hX 2 rfl dX4_side_47 ?_
          refine G.iconst hX (v := 2) (by decide) dX4_side_48 ?_
          refine G.iload_n hX 1 rfl dX4_side_49 ?_
          refine G.iadd hX dX4_side_50 ?_
          refine G.ie (nI_add 2 m) ?_
          refine G.s0i hX (As := [.int (nI t), .int (nI (2 + m))]) (st := [.ref (o 1)]) (c_X4_spotOf _ E (t := t) (w := 2 + m) ) gX4_side_X4_spotOf cp_X4_spotOf (by decide) rfl rfl (Nat.le_of_ble_eq_true rfl) dX4_side_51 ?_
          refine G.aload_n hX 0 rfl dX4_side_54 ?_
          refine G.get hX inc_X4_side_4 0 rfl rfl 0 (by decide) (by decide +kernel) rfl dX4_side_55 ?_
          refine G.iconst hX (v := 0) (by decide) dX4_side_58 ?_
          refine G.iald hX (j := 0) 1 rfl (by omega) (by omega) dX4_side_59 ?_
          refine G.iast hX (j := 2 + 10 * t + (2 + m)) (ws' := [(o 0, moO o ik ((it (ms_siS s m) t (-1, 201, asd, ge)).1) ((it (ms_siS s m) t (-1, 201, asd, ge)).2.1) tp fr tq vl wr), (o 1, arI E 122 (upd s (2 + 10 * t + (2 + m)) (s 0))), (o 4, arI E 122 ((it (ms_siS s m) t (-1, 201, asd, ge)).2.2.1)), (o 5, arI E 7 stt), (o 6, arI E 12 ((it (ms_siS s m) t (-1, 201, asd, ge)).2.2.2))]) 1 rfl (by omega) (by omega) rfl rfl dX4_side_60 ?_
          refine G.we (ws' := [(o 0, moO o ik ((it (ms_siS s m) t (-1, 201, asd, ge)).1) ((it (ms_siS s m) t (-1, 201, asd, ge)).2.1) tp fr tq vl wr), (o 1, arI E 122 (ms_siZ s m t)), (o 4, arI E 122 ((it (ms_siS s m) t (-1, 201, asd, ge)).2.2.1)), (o 5, arI E 7 stt), (o 6, arI E 12 ((it (ms_siS s m) t (-1, 201, asd, ge)).2.2.2))]) (by rfl) ?_
          refine G.aload_n hX 0 rfl dX4_side_61 ?_
          refine G.iload_n hX 2 rfl dX4_side_62 ?_
          refine G.aload_n hX 0 rfl dX4_side_63 ?_
          refine G.iconst hX (v := -1) (by decide) dX4_side_64 ?_
          refine G.iload_n hX 1 rfl dX4_side_65 ?_
          refine G.vi hX (As := [.int ((-1)), .int (nI m)]) (st := [.int (nI t), .ref (o 0)]) (wr := [(o 5, arI E 7 stt)]) (wf := [(o 0, moO o ik ((it (ms_siS s m) t (-1, 201, asd, ge)).1) ((it (ms_siS s m) t (-1, 201, asd, ge)).2.1) tp fr tq vl wr), (o 1, arI E 122 (ms_siZ s m t)), (o 4, arI E 122 ((ms_siZ s m t))), (o 5, arI E 7 stt), (o 6, arI E 12 (ms_gs (ms_kh (ms_siZ s m t) m) (ms_siZ s m t) ((it (ms_siS s m) t (-1, 201, asd, ge)).2.2.2)))]) (q0 := 0) (ci := 4) rfl rfl (c_X4_knownInh _ E (m := m) (o := o) (ik := ik) (be := (it (ms_siS s m) t (-1, 201, asd, ge)).1) (so := (it (ms_siS s m) t (-1, 201, asd, ge)).2.1) (tp := tp) (fr := fr) (tq := tq) (vl := vl) (wr := wr) (s := ms_siZ s m t) (asd := (it (ms_siS s m) t (-1, 201, asd, ge)).2.2.1) (ge := (it (ms_siS s m) t (-1, 201, asd, ge)).2.2.2) (h1 := by omega)) gX4_side_X4_knownIn cp_X4_knownIn (by decide) [0, 1, 2, 4] [3] [1, 2, 3, 0, 4] ⟨rfl, rfl, by decide, rfl⟩ rfl rfl (Nat.le_of_ble_eq_true rfl) dX4_side_66 ?_
          refine G.vv hX (As := [.int (nI t), .int (nI (ms_kh (ms_siZ s m t) m))]) (st := []) (wr := [(o 1, arI E 122 (ms_siZ s m t)), (o 4, arI E 122 ((ms_siZ s m t))), (o 5, arI E 7 stt), (o 6, arI E 12 (ms_gs (ms_kh (ms_siZ s m t) m) (ms_siZ s m t) ((it (ms_siS s m) t (-1, 201, asd, ge)).2.2.2)))]) (wf := [(o 0, moO o ik (trB ((it (ms_siS s m) t (-1, 201, asd, ge)).1) ((it (ms_siS s m) t (-1, 201, asd, ge)).2.1) (nI t) (nI (ms_kh (ms_siZ s m t) m))) (trS ((it (ms_siS s m) t (-1, 201, asd, ge)).2.1) (nI (ms_kh (ms_siZ s m t) m))) tp fr tq vl wr), (o 1, arI E 122 (ms_siZ s m t)), (o 4, arI E 122 ((ms_siZ s m t))), (o 5, arI E 7 stt), (o 6, arI E 12 (ms_gs (ms_kh (ms_siZ s m t) m) (ms_siZ s m t) ((it (ms_siS s m) t (-1, 201, asd, ge)).2.2.2)))]) (q0 := 0) (ci := 4) rfl rfl (c_X4_tries _ E (v := nI t) (w := nI (ms_kh (ms_siZ s m t) m)) (o := o) (ik := ik) (be := (it (ms_siS s m) t (-1, 201, asd, ge)).1) (so := (it (ms_siS s m) t (-1, 201, asd, ge)).2.1) (tp := tp) (fr := fr) (tq := tq) (vl := vl) (wr := wr) ) gX4_side_X4_tries cp_X4_tries (by decide) [0] [1, 2, 3, 4] [4, 0, 1, 2, 3] ⟨rfl, rfl, by decide, rfl⟩ rfl rfl (Nat.le_of_ble_eq_true rfl) dX4_side_69 ?_
          refine G.aload_n hX 0 rfl dX4_side_72 ?_
          refine G.get hX inc_X4_side_4 0 rfl rfl 0 (by decide) (by decide +kernel) rfl dX4_side_73 ?_
          refine G.iload_n hX 2 rfl dX4_side_76 ?_
          refine G.iconst hX (v := 2) (by decide) dX4_side_77 ?_
          refine G.iload_n hX 1 rfl dX4_side_78 ?_
          refine G.iadd hX dX4_side_79 ?_
          refine G.ie (nI_add 2 m) ?_
          refine G.s0i hX (As := [.int (nI t), .int (nI (2 + m))]) (st := [.ref (o 1)]) (c_X4_spotOf _ E (t := t) (w := 2 + m) ) gX4_side_X4_spotOf cp_X4_spotOf (by decide) rfl rfl (Nat.le_of_ble_eq_true rfl) dX4_side_80 ?_
          refine G.iconst hX (v := -1) (by decide) dX4_side_83 ?_
          refine G.iast hX (j := 2 + 10 * t + (2 + m)) (ws' := [(o 0, moO o ik (trB ((it (ms_siS s m) t (-1, 201, asd, ge)).1) ((it (ms_siS s m) t (-1, 201, asd, ge)).2.1) (nI t) (nI (ms_kh (ms_siZ s m t) m))) (trS ((it (ms_siS s m) t (-1, 201, asd, ge)).2.1) (nI (ms_kh (ms_siZ s m t) m))) tp fr tq vl wr), (o 1, arI E 122 (upd (ms_siZ s m t) (2 + 10 * t + (2 + m)) ((-1)))), (o 4, arI E 122 ((ms_siZ s m t))), (o 5, arI E 7 stt), (o 6, arI E 12 (ms_gs (ms_kh (ms_siZ s m t) m) (ms_siZ s m t) ((it (ms_siS s m) t (-1, 201, asd, ge)).2.2.2)))]) 1 rfl (by omega) (by omega) rfl rfl dX4_side_84 ?_
          refine G.we (ws' := [(o 0, moO o ik (trB ((it (ms_siS s m) t (-1, 201, asd, ge)).1) ((it (ms_siS s m) t (-1, 201, asd, ge)).2.1) (nI t) (nI (ms_kh (ms_siZ s m t) m))) (trS ((it (ms_siS s m) t (-1, 201, asd, ge)).2.1) (nI (ms_kh (ms_siZ s m t) m))) tp fr tq vl wr), (o 1, arI E 122 s), (o 4, arI E 122 ((ms_siZ s m t))), (o 5, arI E 7 stt), (o 6, arI E 12 (ms_gs (ms_kh (ms_siZ s m t) m) (ms_siZ s m t) ((it (ms_siS s m) t (-1, 201, asd, ge)).2.2.2)))]) (by rw [ms_siZ, upd2]; rw [updS' s _ _ (h3 t (by omega))]) ?_
          refine G.iinc hX (n := 1) (lv' := [(2, .int (nI (t + 1))), (0, .ref (o 0)), (1, .int (nI m))]) 2 rfl (inc_nI t 1 rfl) (by decide) rfl dX4_side_85 ?_
          refine G.goto hX (tgt := 38) (by decide) dX4_side_88 ?_
          refine G.lvp (lv' := [(0, .ref (o 0)), (1, .int (nI m)), (2, .int (nI (t + 1)))]) [1, 2, 0] rfl ?_
          refine G.lve (lv' := [(0, .ref (o 0)), (1, .int (nI m)), (2, .int (nI ((t + 1))))]) (by rfl) ?_
          refine G.we (ws' := [(o 0, moO o ik ((it (ms_siS s m) (t + 1) (-1, 201, asd, ge)).1) ((it (ms_siS s m) (t + 1) (-1, 201, asd, ge)).2.1) tp fr tq vl wr), (o 1, arI E 122 s), (o 4, arI E 122 ((it (ms_siS s m) (t + 1) (-1, 201, asd, ge)).2.2.1)), (o 5, arI E 7 stt), (o 6, arI E 12 ((it (ms_siS s m) (t + 1) (-1, 201, asd, ge)).2.2.2))]) (by rfl) ?_
          exact ih38 (t + 1) (by omega) (by omega)
    refine G.lvp (lv' := [(0, .ref (o 0)), (1, .int (nI m)), (2, .int 0)]) [1, 2, 0] rfl ?_
    refine G.lve (lv' := [(0, .ref (o 0)), (1, .int (nI m)), (2, .int (nI 0))]) (by rfl) ?_
    refine G.we (ws' := [(o 0, moO o ik ((it (ms_siS s m) 0 (-1, 201, asd, ge)).1) ((it (ms_siS s m) 0 (-1, 201, asd, ge)).2.1) tp fr tq vl wr), (o 1, arI E 122 s), (o 4, arI E 122 ((it (ms_siS s m) 0 (-1, 201, asd, ge)).2.2.1)), (o 5, arI E 7 stt), (o 6, arI E 12 ((it (ms_siS s m) 0 (-1, 201, asd, ge)).2.2.2))]) (by rfl) ?_
    exact L38 3 0 (by omega) (by omega)
  · exact absurd (by rw [h2]; decide) c19
set_option maxHeartbeats 4000000 in
set_option maxRecDepth 100000 in
theorem c_X4_sideno (l : Launch) (E : EV) (m : Nat) (o : Nat → Nat) (ik : Int32) (be : Int32) (so : Int32) (tp : Int32) (fr : Int32) (tq : Int32) (vl : Int32) (wr : Int32) (s : Nat → Int32) (asd : Nat → Int32) (stt : Nat → Int32) (ge : Nat → Int32) (h1 : m < 8) (h2 : ms_kn s m = 0) (h3 : ∀ t, t < 2 → s (2 + 10 * t + (2 + m)) = -1) (h4 : ¬ 0 ≤ (ms_si s m asd ge).1) : CI l yX4_side wsX4_side rmX4_side E [.ref (o 0), .int (nI m)] [(o 0, moO o ik be so tp fr tq vl wr), (o 1, arI E 122 s), (o 4, arI E 122 asd), (o 5, arI E 7 stt), (o 6, arI E 12 ge)] [(o 0, moO o ik ((ms_si s m asd ge).1) ((ms_si s m asd ge).2.1) tp fr tq vl wr), (o 1, arI E 122 s), (o 4, arI E 122 ((ms_si s m asd ge).2.2.1)), (o 5, arI E 7 (upd stt 3 (stt 3 + 1))), (o 6, arI E 12 ((ms_si s m asd ge).2.2.2))] ((-1000000004)) := by
  refine CI.of (own := RX4) (cc := cX4_side) (nL := 3) (rt := (some .int)) (by decide) rfl rfl (Nat.le_of_ble_eq_true rfl) (fun X hX hQ => ?_)
  show G E X 3 0 [(0, .ref (o 0)), (1, .int (nI m))] [] [(o 0, moO o ik be so tp fr tq vl wr), (o 1, arI E 122 s), (o 4, arI E 122 asd), (o 5, arI E 7 stt), (o 6, arI E 12 ge)]
  refine G.iload_n hX 1 rfl dX4_side_0 ?_
  refine G.s0i hX (As := [.int (nI m)]) (st := []) (c_X4_isMessagen _ E (x := m) (h1 := by omega)) gX4_side_X4_isMessage cp_X4_isMessage (by decide) rfl rfl (Nat.le_of_ble_eq_true rfl) dX4_side_1 ?_
  refine G.if_ne hX (tgt := 14) (by decide) dX4_side_4 (fun _ => ?_) (fun c4 => absurd c4 (by decide))
  refine G.aload_n hX 0 rfl dX4_side_14 ?_
  refine G.iload_n hX 1 rfl dX4_side_15 ?_
  refine G.vi hX (As := [.int (nI m)]) (st := []) (wr := [(o 4, arI E 122 asd), (o 5, arI E 7 stt), (o 6, arI E 12 ge)]) (wf := [(o 0, moO o ik be so tp fr tq vl wr), (o 1, arI E 122 s), (o 4, arI E 122 asd), (o 5, arI E 7 stt), (o 6, arI E 12 ge)]) (q0 := 0) (ci := 4) rfl rfl (c_X4_knowing _ E (m := m) (o := o) (ik := ik) (be := be) (so := so) (tp := tp) (fr := fr) (tq := tq) (vl := vl) (wr := wr) (s := s) (h1 := by omega)) gX4_side_X4_knowing cp_X4_knowing (by decide) [0, 1] [2, 3, 4] [3, 4, 0, 1, 2] ⟨rfl, rfl, by decide, rfl⟩ rfl rfl (Nat.le_of_ble_eq_true rfl) dX4_side_16 ?_
  refine G.if_le hX (tgt := 29) (by decide) dX4_side_19 (fun c19 => ?_) (fun c19 => ?_)
  · refine G.aload_n hX 0 rfl dX4_side_29 ?_
    refine G.sipush hX (v := 201) (by decide) dX4_side_30 ?_
    refine G.vv hX (As := [.int 201]) (st := []) (wr := [(o 1, arI E 122 s), (o 4, arI E 122 asd), (o 5, arI E 7 stt), (o 6, arI E 12 ge)]) (wf := [(o 0, moO o ik ((-1)) 201 tp fr tq vl wr), (o 1, arI E 122 s), (o 4, arI E 122 asd), (o 5, arI E 7 stt), (o 6, arI E 12 ge)]) (q0 := 0) (ci := 4) rfl rfl (c_X4_begins _ E (v := 201) (o := o) (ik := ik) (be := be) (so := so) (tp := tp) (fr := fr) (tq := tq) (vl := vl) (wr := wr) ) gX4_side_X4_begins cp_X4_begins (by decide) [0] [1, 2, 3, 4] [4, 0, 1, 2, 3] ⟨rfl, rfl, by decide, rfl⟩ rfl rfl (Nat.le_of_ble_eq_true rfl) dX4_side_33 ?_
    refine G.iconst hX (v := 0) (by decide) dX4_side_36 ?_
    refine G.istore_n hX (lv' := [(2, .int 0), (0, .ref (o 0)), (1, .int (nI m))]) rfl (by decide) rfl dX4_side_37 ?_
    have L38 : ∀ (n : Nat) (t : Nat), t ≤ 2 → 3 ≤ t + n → G E X 3 38 [(0, .ref (o 0)), (1, .int (nI m)), (2, .int (nI t))] [] [(o 0, moO o ik ((it (ms_siS s m) t (-1, 201, asd, ge)).1) ((it (ms_siS s m) t (-1, 201, asd, ge)).2.1) tp fr tq vl wr), (o 1, arI E 122 s), (o 4, arI E 122 ((it (ms_siS s m) t (-1, 201, asd, ge)).2.2.1)), (o 5, arI E 7 stt), (o 6, arI E 12 ((it (ms_siS s m) t (-1, 201, asd, ge)).2.2.2))] := by
      intro n
      induction n with
      | zero => intro t hl38_0 hl38_1; exact absurd hl38_1 (by omega)
      | succ n ih38 =>
        intro t hl38_0 hl38_1
        refine G.iload_n hX 2 rfl dX4_side_38 ?_
        refine G.iconst hX (v := 2) (by decide) dX4_side_39 ?_
        refine G.n_ge hX (a := t) (b := 2) (tgt := 91) (by omega) (by omega) (by decide) dX4_side_40 (fun c40 => ?_) (fun c40 => ?_)
        · obtain rfl : t = 2 := by omega
          refine G.we (ws' := [(o 0, moO o ik ((ms_si s m asd ge).1) ((ms_si s m asd ge).2.1) tp fr tq vl wr), (o 1, arI E 122 s), (o 4, arI E 122 ((ms_si s m asd ge).2.2.1)), (o 5, arI E 7 stt), (o 6, arI E 12 ((ms_si s m asd ge).2.2.2))]) (by rfl) ?_
          refine G.aload_n hX 0 rfl dX4_side_91 ?_
          refine G.vi hX (As := []) (st := []) (wr := [(o 1, arI E 122 s), (o 4, arI E 122 ((ms_si s m asd ge).2.2.1)), (o 6, arI E 12 ((ms_si s m asd ge).2.2.2))]) (wf := [(o 0, moO o ik ((ms_si s m asd ge).1) ((ms_si s m asd ge).2.1) tp fr tq vl wr), (o 1, arI E 122 s), (o 4, arI E 122 ((ms_si s m asd ge).2.2.1)), (o 5, arI E 7 (upd stt 3 (stt 3 + 1))), (o 6, arI E 12 ((ms_si s m asd ge).2.2.2))]) (q0 := 0) (ci := 4) rfl rfl (c_X4_bestOrNoneno _ E (o := o) (ik := ik) (be := (ms_si s m asd ge).1) (so := (ms_si s m asd ge).2.1) (tp := tp) (fr := fr) (tq := tq) (vl := vl) (wr := wr) (stt := stt) (h1 := by omega)) gX4_side_X4_bestOrNone cp_X4_bestOrNone (by decide) [0, 3] [1, 2, 4] [3, 0, 1, 4, 2] ⟨rfl, rfl, by decide, rfl⟩ rfl rfl (Nat.le_of_ble_eq_true rfl) dX4_side_92 ?_
          exact G.iret hX hQ dX4_side_95 (by rfl) (by rfl)
        · refine G.aload_n hX 0 rfl dX4_side_43 ?_
          refine G.get hX inc_X4_side_4 0 rfl rfl 0 (by decide) (by decide +kernel) rfl dX4_side_44 ?_
          refine G.iload_n hX 2 rfl dX4_side_47 ?_
          refine G.iconst hX (v := 2) (by decide) dX4_side_48 ?_
          refine G.iload_n hX 1 rfl dX4_side_49 ?_
          refine G.iadd hX dX4_side_50 ?_
          refine G.ie (nI_add 2 m) ?_
          refine G.s0i hX (As := [.int (nI t), .int (nI (2 + m))]) (st := [.ref (o 1)]) (c_X4_spotOf _ E (t := t) (w := 2 + m) ) gX4_side_X4_spotOf cp_X4_spotOf (by decide) rfl rfl (Nat.le_of_ble_eq_true rfl) dX4_side_51 ?_
          refine G.aload_n hX 0 rfl dX4_side_54 ?_
          refine G.get hX inc_X4_side_4 0 rfl rfl 0 (by decide) (by decide +kernel) rfl dX4_side_55 ?_
          refine G.iconst hX (v := 0) (by decide) dX4_side_58 ?_
          refine G.iald hX (j := 0) 1 rfl (by omega) (by omega) dX4_side_59 ?_
          refine G.iast hX (j := 2 + 10 * t + (2 + m)) (ws' := [(o 0, moO o ik ((it (ms_siS s m) t (-1, 201, asd, ge)).1) ((it (ms_siS s m) t (-1, 201, asd, ge)).2.1) tp fr tq vl wr), (o 1, arI E 122 (upd s (2 + 10 * t + (2 + m)) (s 0))), (o 4, arI E 122 ((it (ms_siS s m) t (-1, 201, asd, ge)).2.2.1)), (o 5, arI E 7 stt), (o 6, arI E 12 ((it (ms_siS s m) t (-1, 201, asd, ge)).2.2.2))]) 1 rfl (by omega) (by omega) rfl rfl dX4_side_60 ?_
          refine G.we (ws' := [(o 0, moO o ik ((it (ms_siS s m) t (-1, 201, asd, ge)).1) ((it (ms_siS s m) t (-1, 201, asd, ge)).2.1) tp fr tq vl wr), (o 1, arI E 122 (ms_siZ s m t)), (o 4, arI E 122 ((it (ms_siS s m) t (-1, 201, asd, ge)).2.2.1)), (o 5, arI E 7 stt), (o 6, arI E 12 ((it (ms_siS s m) t (-1, 201, asd, ge)).2.2.2))]) (by rfl) ?_
          refine G.aload_n hX 0 rfl dX4_side_61 ?_
          refine G.iload_n hX 2 rfl dX4_side_62 ?_
          refine G.aload_n hX 0 rfl dX4_side_63 ?_
          refine G.iconst hX (v := -1) (by decide) dX4_side_64 ?_
          refine G.iload_n hX 1 rfl dX4_side_65 ?_
          refine G.vi hX (As := [.int ((-1)), .int (nI m)]) (st := [.int (nI t), .ref (o 0)]) (wr := [(o 5, arI E 7 stt)]) (wf := [(o 0, moO o ik ((it (ms_siS s m) t (-1, 201, asd, ge)).1) ((it (ms_siS s m) t (-1, 201, asd, ge)).2.1) tp fr tq vl wr), (o 1, arI E 122 (ms_siZ s m t)), (o 4, arI E 122 ((ms_siZ s m t))), (o 5, arI E 7 stt), (o 6, arI E 12 (ms_gs (ms_kh (ms_siZ s m t) m) (ms_siZ s m t) ((it (ms_siS s m) t (-1, 201, asd, ge)).2.2.2)))]) (q0 := 0) (ci := 4) rfl rfl (c_X4_knownInh _ E (m := m) (o := o) (ik := ik) (be := (it (ms_siS s m) t (-1, 201, asd, ge)).1) (so := (it (ms_siS s m) t (-1, 201, asd, ge)).2.1) (tp := tp) (fr := fr) (tq := tq) (vl := vl) (wr := wr) (s := ms_siZ s m t) (asd := (it (ms_siS s m) t (-1, 201, asd, ge)).2.2.1) (ge := (it (ms_siS s m) t (-1, 201, asd, ge)).2.2.2) (h1 := by omega)) gX4_side_X4_knownIn cp_X4_knownIn (by decide) [0, 1, 2, 4] [3] [1, 2, 3, 0, 4] ⟨rfl, rfl, by decide, rfl⟩ rfl rfl (Nat.le_of_ble_eq_true rfl) dX4_side_66 ?_
          refine G.vv hX (As := [.int (nI t), .int (nI (ms_kh (ms_siZ s m t) m))]) (st := []) (wr := [(o 1, arI E 122 (ms_siZ s m t)), (o 4, arI E 122 ((ms_siZ s m t))), (o 5, arI E 7 stt), (o 6, arI E 12 (ms_gs (ms_kh (ms_siZ s m t) m) (ms_siZ s m t) ((it (ms_siS s m) t (-1, 201, asd, ge)).2.2.2)))]) (wf := [(o 0, moO o ik (trB ((it (ms_siS s m) t (-1, 201, asd, ge)).1) ((it (ms_siS s m) t (-1, 201, asd, ge)).2.1) (nI t) (nI (ms_kh (ms_siZ s m t) m))) (trS ((it (ms_siS s m) t (-1, 201, asd, ge)).2.1) (nI (ms_kh (ms_siZ s m t) m))) tp fr tq vl wr), (o 1, arI E 122 (ms_siZ s m t)), (o 4, arI E 122 ((ms_siZ s m t))), (o 5, arI E 7 stt), (o 6, arI E 12 (ms_gs (ms_kh (ms_siZ s m t) m) (ms_siZ s m t) ((it (ms_siS s m) t (-1, 201, asd, ge)).2.2.2)))]) (q0 := 0) (ci := 4) rfl rfl (c_X4_tries _ E (v := nI t) (w := nI (ms_kh (ms_siZ s m t) m)) (o := o) (ik := ik) (be := (it (ms_siS s m) t (-1, 201, asd, ge)).1) (so := (it (ms_siS s m) t (-1, 201, asd, ge)).2.1) (tp := tp) (fr := fr) (tq := tq) (vl := vl) (wr := wr) ) gX4_side_X4_tries cp_X4_tries (by decide) [0] [1, 2, 3, 4] [4, 0, 1, 2, 3] ⟨rfl, rfl, by decide, rfl⟩ rfl rfl (Nat.le_of_ble_eq_true rfl) dX4_side_69 ?_
          refine G.aload_n hX 0 rfl dX4_side_72 ?_
          refine G.get hX inc_X4_side_4 0 rfl rfl 0 (by decide) (by decide +kernel) rfl dX4_side_73 ?_
          refine G.iload_n hX 2 rfl dX4_side_76 ?_
          refine G.iconst hX (v := 2) (by decide) dX4_side_77 ?_
          refine G.iload_n hX 1 rfl dX4_side_78 ?_
          refine G.iadd hX dX4_side_79 ?_
          refine G.ie (nI_add 2 m) ?_
          refine G.s0i hX (As := [.int (nI t), .int (nI (2 + m))]) (st := [.ref (o 1)]) (c_X4_spotOf _ E (t := t) (w := 2 + m) ) gX4_side_X4_spotOf cp_X4_spotOf (by decide) rfl rfl (Nat.le_of_ble_eq_true rfl) dX4_side_80 ?_
          refine G.iconst hX (v := -1) (by decide) dX4_side_83 ?_
          refine G.iast hX (j := 2 + 10 * t + (2 + m)) (ws' := [(o 0, moO o ik (trB ((it (ms_siS s m) t (-1, 201, asd, ge)).1) ((it (ms_siS s m) t (-1, 201, asd, ge)).2.1) (nI t) (nI (ms_kh (ms_siZ s m t) m))) (trS ((it (ms_siS s m) t (-1, 201, asd, ge)).2.1) (nI (ms_kh (ms_siZ s m t) m))) tp fr tq vl wr), (o 1, arI E 122 (upd (ms_siZ s m t) (2 + 10 * t + (2 + m)) ((-1)))), (o 4, arI E 122 ((ms_siZ s m t))), (o 5, arI E 7 stt), (o 6, arI E 12 (ms_gs (ms_kh (ms_siZ s m t) m) (ms_siZ s m t) ((it (ms_siS s m) t (-1, 201, asd, ge)).2.2.2)))]) 1 rfl (by omega) (by omega) rfl rfl dX4_side_84 ?_
          refine G.we (ws' := [(o 0, moO o ik (trB ((it (ms_siS s m) t (-1, 201, asd, ge)).1) ((it (ms_siS s m) t (-1, 201, asd, ge)).2.1) (nI t) (nI (ms_kh (ms_siZ s m t) m))) (trS ((it (ms_siS s m) t (-1, 201, asd, ge)).2.1) (nI (ms_kh (ms_siZ s m t) m))) tp fr tq vl wr), (o 1, arI E 122 s), (o 4, arI E 122 ((ms_siZ s m t))), (o 5, arI E 7 stt), (o 6, arI E 12 (ms_gs (ms_kh (ms_siZ s m t) m) (ms_siZ s m t) ((it (ms_siS s m) t (-1, 201, asd, ge)).2.2.2)))]) (by rw [ms_siZ, upd2]; rw [updS' s _ _ (h3 t (by omega))]) ?_
          refine G.iinc hX (n := 1) (lv' := [(2, .int (nI (t + 1))), (0, .ref (o 0)), (1, .int (nI m))]) 2 rfl (inc_nI t 1 rfl) (by decide) rfl dX4_side_85 ?_
          refine G.goto hX (tgt := 38) (by decide) dX4_side_88 ?_
          refine G.lvp (lv' := [(0, .ref (o 0)), (1, .int (nI m)), (2, .int (nI (t + 1)))]) [1, 2, 0] rfl ?_
          refine G.lve (lv' := [(0, .ref (o 0)), (1, .int (nI m)), (2, .int (nI ((t + 1))))]) (by rfl) ?_
          refine G.we (ws' := [(o 0, moO o ik ((it (ms_siS s m) (t + 1) (-1, 201, asd, ge)).1) ((it (ms_siS s m) (t + 1) (-1, 201, asd, ge)).2.1) tp fr tq vl wr), (o 1, arI E 122 s), (o 4, arI E 122 ((it (ms_siS s m) (t + 1) (-1, 201, asd, ge)).2.2.1)), (o 5, arI E 7 stt), (o 6, arI E 12 ((it (ms_siS s m) (t + 1) (-1, 201, asd, ge)).2.2.2))]) (by rfl) ?_
          exact ih38 (t + 1) (by omega) (by omega)
    refine G.lvp (lv' := [(0, .ref (o 0)), (1, .int (nI m)), (2, .int 0)]) [1, 2, 0] rfl ?_
    refine G.lve (lv' := [(0, .ref (o 0)), (1, .int (nI m)), (2, .int (nI 0))]) (by rfl) ?_
    refine G.we (ws' := [(o 0, moO o ik ((it (ms_siS s m) 0 (-1, 201, asd, ge)).1) ((it (ms_siS s m) 0 (-1, 201, asd, ge)).2.1) tp fr tq vl wr), (o 1, arI E 122 s), (o 4, arI E 122 ((it (ms_siS s m) 0 (-1, 201, asd, ge)).2.2.1)), (o 5, arI E 7 stt), (o 6, arI E 12 ((it (ms_siS s m) 0 (-1, 201, asd, ge)).2.2.2))]) (by rfl) ?_
    exact L38 3 0 (by omega) (by omega)
  · exact absurd (by rw [h2]; decide) c19
abbrev rmX4_needed : Room := { frames := 8, cells := 0, slots := 0, locals := 180 }
theorem cp_X4_needed : CP yX4_needed RX4 wsX4_needed 8 1 rmX4_needed := ⟨⟨_, _, _, rfl⟩, rfl, rfl, by decide +kernel⟩
theorem inc_X4_needed_4 : ∀ w ∈ u_ws RX4 TX4 19, w ∈ wsX4_needed := by decide +kernel
set_option maxHeartbeats 4000000 in
set_option maxRecDepth 100000 in
theorem c_X4_neededbad (l : Launch) (E : EV) (x : Int32) (o : Nat → Nat) (ik : Int32) (be : Int32) (so : Int32) (tp : Int32) (fr : Int32) (tq : Int32) (vl : Int32) (wr : Int32) (stt : Nat → Int32) (h1 : inI x 0 7 = false) : CI l yX4_needed wsX4_needed rmX4_needed E [.ref (o 0), .int x] [(o 0, moO o ik be so tp fr tq vl wr), (o 5, arI E 7 stt)] [(o 0, moO o ik be so tp fr tq vl wr), (o 5, arI E 7 (upd stt 0 (stt 0 + 1)))] ((-1000000001)) := by
  refine CI.of (own := RX4) (cc := cX4_needed) (nL := 8) (rt := (some .int)) (by decide) rfl rfl (Nat.le_of_ble_eq_true rfl) (fun X hX hQ => ?_)
  show G E X 8 0 [(0, .ref (o 0)), (1, .int x)] [] [(o 0, moO o ik be so tp fr tq vl wr), (o 5, arI E 7 stt)]
  refine G.iload_n hX 1 rfl dX4_needed_0 ?_
  refine G.s0i hX (As := [.int x]) (st := []) (c_X4_isMessage _ E (x := x) ) gX4_needed_X4_isMessage cp_X4_isMessage (by decide) rfl rfl (Nat.le_of_ble_eq_true rfl) dX4_needed_1 ?_
  refine G.b_ne hX (tgt := 14) (by decide) dX4_needed_4 (fun c4 => ?_) (fun c4 => ?_)
  · exact absurd h1 (by simp [c4])
  · refine G.aload_n hX 0 rfl dX4_needed_7 ?_
    refine G.ldc hX (v := -1000000001) (by decide +kernel) dX4_needed_8 ?_
    refine G.vi hX (As := [.int ((-1000000001))]) (st := []) (wr := []) (wf := [(o 0, moO o ik be so tp fr tq vl wr), (o 5, arI E 7 (upd stt 0 (stt 0 + 1)))]) (q0 := 0) (ci := 4) rfl rfl (c_X4_finds0 _ E (o := o) (ik := ik) (be := be) (so := so) (tp := tp) (fr := fr) (tq := tq) (vl := vl) (wr := wr) (stt := stt) ) gX4_needed_X4_finds cp_X4_finds (by decide) [0, 1] [] [0, 1] ⟨rfl, rfl, by decide, rfl⟩ rfl rfl (Nat.le_of_ble_eq_true rfl) dX4_needed_10 ?_
    exact G.iret hX hQ dX4_needed_13 (by rfl) (by rfl)
set_option maxHeartbeats 4000000 in
set_option maxRecDepth 100000 in
theorem c_X4_neededok (l : Launch) (E : EV) (m : Nat) (o : Nat → Nat) (ik : Int32) (be : Int32) (so : Int32) (tp : Int32) (fr : Int32) (tq : Int32) (vl : Int32) (wr : Int32) (s : Nat → Int32) (asd : Nat → Int32) (ge : Nat → Int32) (h1 : m < 8) : CI l yX4_needed wsX4_needed rmX4_needed E [.ref (o 0), .int (nI m)] [(o 0, moO o ik be so tp fr tq vl wr), (o 1, arI E 122 s), (o 4, arI E 122 asd), (o 6, arI E 12 ge)] [(o 0, moO o ik be so tp fr tq vl wr), (o 1, arI E 122 s), (o 4, arI E 122 ((ms_ne s m asd ge).2.2.1)), (o 6, arI E 12 ((ms_ne s m asd ge).2.2.2))] ((ms_ne s m asd ge).1) := by
  refine CI.of (own := RX4) (cc := cX4_needed) (nL := 8) (rt := (some .int)) (by decide) rfl rfl (Nat.le_of_ble_eq_true rfl) (fun X hX hQ => ?_)
  show G E X 8 0 [(0, .ref (o 0)), (1, .int (nI m))] [] [(o 0, moO o ik be so tp fr tq vl wr), (o 1, arI E 122 s), (o 4, arI E 122 asd), (o 6, arI E 12 ge)]
  refine G.iload_n hX 1 rfl dX4_needed_0 ?_
  refine G.s0i hX (As := [.int (nI m)]) (st := []) (c_X4_isMessagen _ E (x := m) (h1 := by omega)) gX4_needed_X4_isMessage cp_X4_isMessage (by decide) rfl rfl (Nat.le_of_ble_eq_true rfl) dX4_needed_1 ?_
  refine G.if_ne hX (tgt := 14) (by decide) dX4_needed_4 (fun _ => ?_) (fun c4 => absurd c4 (by decide))
  refine G.iconst hX (v := 0) (by decide) dX4_needed_14 ?_
  refine G.istore_n hX (lv' := [(2, .int 0), (0, .ref (o 0)), (1, .int (nI m))]) rfl (by decide) rfl dX4_needed_15 ?_
  refine G.iconst hX (v := -1) (by decide) dX4_needed_16 ?_
  refine G.istore_n hX (lv' := [(3, .int ((-1))), (2, .int 0), (0, .ref (o 0)), (1, .int (nI m))]) rfl (by decide) rfl dX4_needed_17 ?_
  refine G.iconst hX (v := 0) (by decide) dX4_needed_18 ?_
  refine G.istore hX (lv' := [(4, .int 0), (3, .int ((-1))), (2, .int 0), (0, .ref (o 0)), (1, .int (nI m))]) (by decide) rfl dX4_needed_19 ?_
  have L21 : ∀ (n : Nat) (t : Nat), t ≤ 12 → 13 ≤ t + n → G E X 8 21 [(0, .ref (o 0)), (1, .int (nI m)), (2, .int ((it (ms_neS s m) t (0, -1, asd, ge)).1)), (3, .int ((it (ms_neS s m) t (0, -1, asd, ge)).2.1)), (4, .int (nI t))] [] [(o 0, moO o ik be so tp fr tq vl wr), (o 1, arI E 122 s), (o 4, arI E 122 ((it (ms_neS s m) t (0, -1, asd, ge)).2.2.1)), (o 6, arI E 12 ((it (ms_neS s m) t (0, -1, asd, ge)).2.2.2))] := by
    intro n
    induction n with
    | zero => intro t hl21_0 hl21_1; exact absurd hl21_1 (by omega)
    | succ n ih21 =>
      intro t hl21_0 hl21_1
      refine G.iload hX 4 rfl dX4_needed_21 ?_
      refine G.bipush hX (v := 12) (by decide) dX4_needed_23 ?_
      refine G.n_ge hX (a := t) (b := 12) (tgt := 124) (by omega) (by omega) (by decide) dX4_needed_25 (fun c25 => ?_) (fun c25 => ?_)
      · refine G.iload_n hX 2 rfl dX4_needed_124 ?_
        exact G.iret hX hQ dX4_needed_125 (by obtain rfl : t = 12 := (by omega); rfl) (by obtain rfl : t = 12 := (by omega); rfl)
      · refine G.aload_n hX 0 rfl dX4_needed_28 ?_
        refine G.iload hX 4 rfl dX4_needed_29 ?_
        refine G.iconst hX (v := 0) (by decide) dX4_needed_31 ?_
        refine G.s0i hX (As := [.int (nI t), .int 0]) (st := [.ref (o 0)]) (c_X4_spotOf _ E (t := t) (w := 0) ) gX4_needed_X4_spotOf cp_X4_spotOf (by decide) rfl rfl (Nat.le_of_ble_eq_true rfl) dX4_needed_32 ?_
        refine G.ie (y := nI (2 + 10 * t)) rfl ?_
        refine G.iconst hX (v := 3) (by decide) dX4_needed_35 ?_
        refine G.vi hX (As := [.int (nI (2 + 10 * t)), .int 3]) (st := []) (wr := [(o 4, arI E 122 ((it (ms_neS s m) t (0, -1, asd, ge)).2.2.1)), (o 6, arI E 12 ((it (ms_neS s m) t (0, -1, asd, ge)).2.2.2))]) (wf := [(o 0, moO o ik be so tp fr tq vl wr), (o 1, arI E 122 (upd s (2 + 10 * t) 3)), (o 4, arI E 122 ((it (ms_neS s m) t (0, -1, asd, ge)).2.2.1)), (o 6, arI E 12 ((it (ms_neS s m) t (0, -1, asd, ge)).2.2.2))]) (q0 := 0) (ci := 4) rfl rfl (c_X4_becomes _ E (w := 2 + 10 * t) (v := 3) (o := o) (ik := ik) (be := be) (so := so) (tp := tp) (fr := fr) (tq := tq) (vl := vl) (wr := wr) (s := s) (h1 := by omega)) gX4_needed_X4_becomes cp_X4_becomes (by decide) [0, 1] [2, 3] [2, 3, 0, 1] ⟨rfl, rfl, by decide, rfl⟩ rfl rfl (Nat.le_of_ble_eq_true rfl) dX4_needed_36 ?_
        refine G.istore hX (lv' := [(5, .int (s (2 + 10 * t))), (0, .ref (o 0)), (1, .int (nI m)), (2, .int ((it (ms_neS s m) t (0, -1, asd, ge)).1)), (3, .int ((it (ms_neS s m) t (0, -1, asd, ge)).2.1)), (4, .int (nI t))]) (by decide) rfl dX4_needed_39 ?_
        refine G.aload_n hX 1 rfl dX4_needed_41 ?_
        refine G.iload hX 5 rfl dX4_needed_42 ?_
        refine G.iconst hX (v := 2) (by decide) dX4_needed_44 ?_
        refine G.iload_n hX 2 rfl dX4_needed_45 ?_
        refine G.iadd hX dX4_needed_46 ?_
        refine G.ie (nI_add 2 m) ?_
        refine G.s0i hX (As := [.int (nI t), .int (nI (2 + m))]) (st := [.ref (o 0)]) (c_X4_spotOf _ E (t := t) (w := 2 + m) ) gX4_needed_X4_spotOf cp_X4_spotOf (by decide) rfl rfl (Nat.le_of_ble_eq_true rfl) dX4_needed_47 ?_
        refine G.iconst hX (v := -1) (by decide) dX4_needed_50 ?_
        refine G.vi hX (As := [.int (nI (2 + 10 * t + (2 + m))), .int ((-1))]) (st := []) (wr := [(o 4, arI E 122 ((it (ms_neS s m) t (0, -1, asd, ge)).2.2.1)), (o 6, arI E 12 ((it (ms_neS s m) t (0, -1, asd, ge)).2.2.2))]) (wf := [(o 0, moO o ik be so tp fr tq vl wr), (o 1, arI E 122 (upd (upd s (2 + 10 * t) 3) (2 + 10 * t + (2 + m)) ((-1)))), (o 4, arI E 122 ((it (ms_neS s m) t (0, -1, asd, ge)).2.2.1)), (o 6, arI E 12 ((it (ms_neS s m) t (0, -1, asd, ge)).2.2.2))]) (q0 := 0) (ci := 4) rfl rfl (c_X4_becomes _ E (w := 2 + 10 * t + (2 + m)) (v := (-1)) (o := o) (ik := ik) (be := be) (so := so) (tp := tp) (fr := fr) (tq := tq) (vl := vl) (wr := wr) (s := upd s (2 + 10 * t) 3) (h1 := by omega)) gX4_needed_X4_becomes cp_X4_becomes (by decide) [0, 1] [2, 3] [2, 3, 0, 1] ⟨rfl, rfl, by decide, rfl⟩ rfl rfl (Nat.le_of_ble_eq_true rfl) dX4_needed_51 ?_
        refine G.we (ws' := [(o 0, moO o ik be so tp fr tq vl wr), (o 1, arI E 122 (ms_neZ s m t)), (o 4, arI E 122 ((it (ms_neS s m) t (0, -1, asd, ge)).2.2.1)), (o 6, arI E 12 ((it (ms_neS s m) t (0, -1, asd, ge)).2.2.2))]) (by rfl) ?_
        refine G.istore hX (lv' := [(6, .int ((upd s (2 + 10 * t) 3) (2 + 10 * t + (2 + m)))), (5, .int (s (2 + 10 * t))), (0, .ref (o 0)), (1, .int (nI m)), (2, .int ((it (ms_neS s m) t (0, -1, asd, ge)).1)), (3, .int ((it (ms_neS s m) t (0, -1, asd, ge)).2.1)), (4, .int (nI t))]) (by decide) rfl dX4_needed_54 ?_
        refine G.aload_n hX 2 rfl dX4_needed_56 ?_
        refine G.iconst hX (v := -1) (by decide) dX4_needed_57 ?_
        refine G.iload_n hX 3 rfl dX4_needed_58 ?_
        refine G.vi hX (As := [.int ((-1)), .int (nI m)]) (st := []) (wr := []) (wf := [(o 0, moO o ik be so tp fr tq vl wr), (o 1, arI E 122 (ms_neZ s m t)), (o 4, arI E 122 ((ms_neZ s m t))), (o 6, arI E 12 (ms_gs (ms_kh (ms_neZ s m t) m) (ms_neZ s m t) ((it (ms_neS s m) t (0, -1, asd, ge)).2.2.2)))]) (q0 := 0) (ci := 4) rfl rfl (c_X4_knownInh _ E (m := m) (o := o) (ik := ik) (be := be) (so := so) (tp := tp) (fr := fr) (tq := tq) (vl := vl) (wr := wr) (s := ms_neZ s m t) (asd := (it (ms_neS s m) t (0, -1, asd, ge)).2.2.1) (ge := (it (ms_neS s m) t (0, -1, asd, ge)).2.2.2) (h1 := by omega)) gX4_needed_X4_knownIn cp_X4_knownIn (by decide) [0, 1, 2, 3] [] [0, 1, 2, 3] ⟨rfl, rfl, by decide, rfl⟩ rfl rfl (Nat.le_of_ble_eq_true rfl) dX4_needed_59 ?_
        refine G.istore hX (lv' := [(7, .int (nI (ms_kh (ms_neZ s m t) m))), (6, .int ((upd s (2 + 10 * t) 3) (2 + 10 * t + (2 + m)))), (5, .int (s (2 + 10 * t))), (0, .ref (o 0)), (1, .int (nI m)), (2, .int ((it (ms_neS s m) t (0, -1, asd, ge)).1)), (3, .int ((it (ms_neS s m) t (0, -1, asd, ge)).2.1)), (4, .int (nI t))]) (by decide) rfl dX4_needed_62 ?_
        refine G.aload_n hX 3 rfl dX4_needed_64 ?_
        refine G.get hX inc_X4_needed_4 0 rfl rfl 0 (by decide) (by decide +kernel) rfl dX4_needed_65 ?_
        refine G.iload hX 7 rfl dX4_needed_68 ?_
        refine G.iconst hX (v := 0) (by decide) dX4_needed_70 ?_
        refine G.s0i hX (As := [.int (nI t), .int 0]) (st := [.ref (o 1)]) (c_X4_spotOf _ E (t := t) (w := 0) ) gX4_needed_X4_spotOf cp_X4_spotOf (by decide) rfl rfl (Nat.le_of_ble_eq_true rfl) dX4_needed_71 ?_
        refine G.ie (y := nI (2 + 10 * t)) rfl ?_
        refine G.iload hX 2 rfl dX4_needed_74 ?_
        refine G.iast hX (j := 2 + 10 * t) (ws' := [(o 0, moO o ik be so tp fr tq vl wr), (o 1, arI E 122 (upd (ms_neZ s m t) (2 + 10 * t) (s (2 + 10 * t)))), (o 4, arI E 122 ((ms_neZ s m t))), (o 6, arI E 12 (ms_gs (ms_kh (ms_neZ s m t) m) (ms_neZ s m t) ((it (ms_neS s m) t (0, -1, asd, ge)).2.2.2)))]) 1 rfl (by omega) (by omega) rfl rfl dX4_needed_76 ?_
        refine G.aload_n hX 3 rfl dX4_needed_77 ?_
        refine G.get hX inc_X4_needed_4 0 rfl rfl 0 (by decide) (by decide +kernel) rfl dX4_needed_78 ?_
        refine G.iload hX 7 rfl dX4_needed_81 ?_
        refine G.iconst hX (v := 2) (by decide) dX4_needed_83 ?_
        refine G.iload_n hX 4 rfl dX4_needed_84 ?_
        refine G.iadd hX dX4_needed_85 ?_
        refine G.ie (nI_add 2 m) ?_
        refine G.s0i hX (As := [.int (nI t), .int (nI (2 + m))]) (st := [.ref (o 1)]) (c_X4_spotOf _ E (t := t) (w := 2 + m) ) gX4_needed_X4_spotOf cp_X4_spotOf (by decide) rfl rfl (Nat.le_of_ble_eq_true rfl) dX4_needed_86 ?_
        refine G.iload hX 1 rfl dX4_needed_89 ?_
        refine G.iast hX (j := 2 + 10 * t + (2 + m)) (ws' := [(o 0, moO o ik be so tp fr tq vl wr), (o 1, arI E 122 (upd (upd (ms_neZ s m t) (2 + 10 * t) (s (2 + 10 * t))) (2 + 10 * t + (2 + m)) ((upd s (2 + 10 * t) 3) (2 + 10 * t + (2 + m))))), (o 4, arI E 122 ((ms_neZ s m t))), (o 6, arI E 12 (ms_gs (ms_kh (ms_neZ s m t) m) (ms_neZ s m t) ((it (ms_neS s m) t (0, -1, asd, ge)).2.2.2)))]) 1 rfl (by omega) (by omega) rfl rfl dX4_needed_91 ?_
        refine G.we (ws' := [(o 0, moO o ik be so tp fr tq vl wr), (o 1, arI E 122 s), (o 4, arI E 122 ((ms_neZ s m t))), (o 6, arI E 12 (ms_gs (ms_kh (ms_neZ s m t) m) (ms_neZ s m t) ((it (ms_neS s m) t (0, -1, asd, ge)).2.2.2)))]) (by rw [ms_neZ, upd4 s (by omega)]) ?_
        have J104 : G E X 8 104 [(0, .ref (o 0)), (1, .int (nI m)), (3, .int ((it (ms_neS s m) t (0, -1, asd, ge)).2.1)), (4, .int (nI t)), (7, .int (nI (ms_kh (ms_neZ s m t) m)))] [.int ((it (ms_neS s m) (t + 1) (0, -1, asd, ge)).1)] [(o 0, moO o ik be so tp fr tq vl wr), (o 1, arI E 122 s), (o 4, arI E 122 ((ms_neZ s m t))), (o 6, arI E 12 (ms_gs (ms_kh (ms_neZ s m t) m) (ms_neZ s m t) ((it (ms_neS s m) t (0, -1, asd, ge)).2.2.2)))] := by
          refine G.istore_n hX (lv' := [(2, .int ((it (ms_neS s m) (t + 1) (0, -1, asd, ge)).1)), (0, .ref (o 0)), (1, .int (nI m)), (3, .int ((it (ms_neS s m) t (0, -1, asd, ge)).2.1)), (4, .int (nI t)), (7, .int (nI (ms_kh (ms_neZ s m t) m)))]) rfl (by decide) rfl dX4_needed_104 ?_
          have J117 : G E X 8 117 [(0, .ref (o 0)), (1, .int (nI m)), (2, .int ((it (ms_neS s m) (t + 1) (0, -1, asd, ge)).1)), (4, .int (nI t))] [.int ((it (ms_neS s m) (t + 1) (0, -1, asd, ge)).2.1)] [(o 0, moO o ik be so tp fr tq vl wr), (o 1, arI E 122 s), (o 4, arI E 122 ((ms_neZ s m t))), (o 6, arI E 12 (ms_gs (ms_kh (ms_neZ s m t) m) (ms_neZ s m t) ((it (ms_neS s m) t (0, -1, asd, ge)).2.2.2)))] := by
            refine G.istore_n hX (lv' := [(3, .int ((it (ms_neS s m) (t + 1) (0, -1, asd, ge)).2.1)), (0, .ref (o 0)), (1, .int (nI m)), (2, .int ((it (ms_neS s m) (t + 1) (0, -1, asd, ge)).1)), (4, .int (nI t))]) rfl (by decide) rfl dX4_needed_117 ?_
            refine G.iinc hX (n := 1) (lv' := [(4, .int (nI (t + 1))), (3, .int ((it (ms_neS s m) (t + 1) (0, -1, asd, ge)).2.1)), (0, .ref (o 0)), (1, .int (nI m)), (2, .int ((it (ms_neS s m) (t + 1) (0, -1, asd, ge)).1))]) 4 rfl (inc_nI t 1 rfl) (by decide) rfl dX4_needed_118 ?_
            refine G.goto hX (tgt := 21) (by decide) dX4_needed_121 ?_
            refine G.lvp (lv' := [(0, .ref (o 0)), (1, .int (nI m)), (2, .int ((it (ms_neS s m) (t + 1) (0, -1, asd, ge)).1)), (3, .int ((it (ms_neS s m) (t + 1) (0, -1, asd, ge)).2.1)), (4, .int (nI (t + 1)))]) [2, 3, 4, 1, 0] rfl ?_
            refine G.lve (lv' := [(0, .ref (o 0)), (1, .int (nI m)), (2, .int ((it (ms_neS s m) (t + 1) (0, -1, asd, ge)).1)), (3, .int ((it (ms_neS s m) (t + 1) (0, -1, asd, ge)).2.1)), (4, .int (nI ((t + 1))))]) (by rfl) ?_
            refine G.we (ws' := [(o 0, moO o ik be so tp fr tq vl wr), (o 1, arI E 122 s), (o 4, arI E 122 ((it (ms_neS s m) (t + 1) (0, -1, asd, ge)).2.2.1)), (o 6, arI E 12 ((it (ms_neS s m) (t + 1) (0, -1, asd, ge)).2.2.2))]) (by rfl) ?_
            exact ih21 (t + 1) (by omega) (by omega)
          refine G.iload hX 5 rfl dX4_needed_105 ?_
          refine G.iload_n hX 3 rfl dX4_needed_107 ?_
          refine G.icmp_le hX (tgt := 116) (by decide) dX4_needed_108 (fun c108 => ?_) (fun c108 => ?_)
          · refine G.iload_n hX 3 rfl dX4_needed_116 ?_
            refine G.lvp (lv' := [(0, .ref (o 0)), (1, .int (nI m)), (2, .int ((it (ms_neS s m) (t + 1) (0, -1, asd, ge)).1)), (4, .int (nI t))]) [1, 2, 0, 4] rfl ?_
            refine G.ie (y := (it (ms_neS s m) (t + 1) (0, -1, asd, ge)).2.1) (by first | rfl | (simp only [it_s, ms_neS, ltS, c25, c108, ↓reduceIte, Bool.not_true, Bool.not_false, Bool.and_true, Bool.true_and, Bool.and_false, Bool.false_and, Bool.or_true, Bool.true_or, Bool.or_false, Bool.false_or, decide_true, decide_false, not_true_eq_false, not_false_eq_true, Bool.false_eq_true, Bool.true_eq_false]; done) | (simp only [it_s, ms_neS, ltS, c25, c108, ↓reduceIte, Bool.not_true, Bool.not_false, Bool.and_true, Bool.true_and, Bool.and_false, Bool.false_and, Bool.or_true, Bool.true_or, Bool.or_false, Bool.false_or, decide_true, decide_false, not_true_eq_false, not_false_eq_true, Bool.false_eq_true, Bool.true_eq_false]; rfl) | (simp [it_s, ms_neS, ltS, c25, c108]; done)) ?_
            exact J117
          · refine G.iload hX 5 rfl dX4_needed_111 ?_
            refine G.goto hX (tgt := 117) (by decide) dX4_needed_113 ?_
            refine G.lvp (lv' := [(0, .ref (o 0)), (1, .int (nI m)), (2, .int ((it (ms_neS s m) (t + 1) (0, -1, asd, ge)).1)), (4, .int (nI t))]) [1, 2, 0, 4] rfl ?_
            refine G.ie (y := (it (ms_neS s m) (t + 1) (0, -1, asd, ge)).2.1) (by first | rfl | (simp only [it_s, ms_neS, ltS, c25, c108, ↓reduceIte, Bool.not_true, Bool.not_false, Bool.and_true, Bool.true_and, Bool.and_false, Bool.false_and, Bool.or_true, Bool.true_or, Bool.or_false, Bool.false_or, decide_true, decide_false, not_true_eq_false, not_false_eq_true, Bool.false_eq_true, Bool.true_eq_false]; done) | (simp only [it_s, ms_neS, ltS, c25, c108, ↓reduceIte, Bool.not_true, Bool.not_false, Bool.and_true, Bool.true_and, Bool.and_false, Bool.false_and, Bool.or_true, Bool.true_or, Bool.or_false, Bool.false_or, decide_true, decide_false, not_true_eq_false, not_false_eq_true, Bool.false_eq_true, Bool.true_eq_false]; rfl) | (simp [it_s, ms_neS, ltS, c25, c108]; done)) ?_
            exact J117
        refine G.iload hX 0 rfl dX4_needed_92 ?_
        refine G.iload_n hX 6 rfl dX4_needed_94 ?_
        refine G.icmp_le hX (tgt := 103) (by decide) dX4_needed_95 (fun c95 => ?_) (fun c95 => ?_)
        · refine G.iload_n hX 5 rfl dX4_needed_103 ?_
          refine G.lvp (lv' := [(0, .ref (o 0)), (1, .int (nI m)), (3, .int ((it (ms_neS s m) t (0, -1, asd, ge)).2.1)), (4, .int (nI t)), (7, .int (nI (ms_kh (ms_neZ s m t) m)))]) [3, 4, 6, 7, 0] rfl ?_
          refine G.ie (y := (it (ms_neS s m) (t + 1) (0, -1, asd, ge)).1) (by first | rfl | (simp only [it_s, ms_neS, ltB, c25, c95, ↓reduceIte, Bool.not_true, Bool.not_false, Bool.and_true, Bool.true_and, Bool.and_false, Bool.false_and, Bool.or_true, Bool.true_or, Bool.or_false, Bool.false_or, decide_true, decide_false, not_true_eq_false, not_false_eq_true, Bool.false_eq_true, Bool.true_eq_false]; done) | (simp only [it_s, ms_neS, ltB, c25, c95, ↓reduceIte, Bool.not_true, Bool.not_false, Bool.and_true, Bool.true_and, Bool.and_false, Bool.false_and, Bool.or_true, Bool.true_or, Bool.or_false, Bool.false_or, decide_true, decide_false, not_true_eq_false, not_false_eq_true, Bool.false_eq_true, Bool.true_eq_false]; rfl) | (simp [it_s, ms_neS, ltB, c25, c95]; done)) ?_
          exact J104
        · refine G.iload hX 7 rfl dX4_needed_98 ?_
          refine G.goto hX (tgt := 104) (by decide) dX4_needed_100 ?_
          refine G.lvp (lv' := [(0, .ref (o 0)), (1, .int (nI m)), (3, .int ((it (ms_neS s m) t (0, -1, asd, ge)).2.1)), (4, .int (nI t)), (7, .int (nI (ms_kh (ms_neZ s m t) m)))]) [3, 4, 6, 7, 0] rfl ?_
          refine G.ie (y := (it (ms_neS s m) (t + 1) (0, -1, asd, ge)).1) (by first | rfl | (simp only [it_s, ms_neS, ltB, c25, c95, ↓reduceIte, Bool.not_true, Bool.not_false, Bool.and_true, Bool.true_and, Bool.and_false, Bool.false_and, Bool.or_true, Bool.true_or, Bool.or_false, Bool.false_or, decide_true, decide_false, not_true_eq_false, not_false_eq_true, Bool.false_eq_true, Bool.true_eq_false]; done) | (simp only [it_s, ms_neS, ltB, c25, c95, ↓reduceIte, Bool.not_true, Bool.not_false, Bool.and_true, Bool.true_and, Bool.and_false, Bool.false_and, Bool.or_true, Bool.true_or, Bool.or_false, Bool.false_or, decide_true, decide_false, not_true_eq_false, not_false_eq_true, Bool.false_eq_true, Bool.true_eq_false]; rfl) | (simp [it_s, ms_neS, ltB, c25, c95]; done)) ?_
          exact J104
  refine G.lvp (lv' := [(0, .ref (o 0)), (1, .int (nI m)), (2, .int 0), (3, .int ((-1))), (4, .int 0)]) [3, 4, 2, 1, 0] rfl ?_
  refine G.lve (lv' := [(0, .ref (o 0)), (1, .int (nI m)), (2, .int ((it (ms_neS s m) 0 (0, -1, asd, ge)).1)), (3, .int ((it (ms_neS s m) 0 (0, -1, asd, ge)).2.1)), (4, .int (nI 0))]) (by rfl) ?_
  refine G.we (ws' := [(o 0, moO o ik be so tp fr tq vl wr), (o 1, arI E 122 s), (o 4, arI E 122 ((it (ms_neS s m) 0 (0, -1, asd, ge)).2.2.1)), (o 6, arI E 12 ((it (ms_neS s m) 0 (0, -1, asd, ge)).2.2.2))]) (by rfl) ?_
  exact L21 13 0 (by omega) (by omega)
