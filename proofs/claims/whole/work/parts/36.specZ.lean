/-! ===== the class's text: one item, all items ===== -/
def x_kP (b : Nat → Int32) (q : XQ) (k : Nat) : Bool := x_wOK b k q
def x_kf (b : Nat → Int32) (q : XQ) : Nat := ff (x_kP b q) 6 0
def x_it (b : Nat → Int32) (c : Nat) (v : AV) (q : XQ) : Bool × XQ × AV :=
  if x_kf b q < 6 then x_tr b c v (nI (x_kf b q)) (x_tw b c (x_kf b q) q)
  else if x_wOK b 8 q then (decide (0 ≤ x_nr 5 (x_tw b c 8 q)), x_tn b c 5 (x_tw b c 8 q), x_pV v (x_tw b c 8 q) false)
  else if x_wOK b 9 q then (decide (0 ≤ x_nr 5 (x_tw b c 9 q)), x_tn b c 5 (x_tw b c 9 q), x_pV v (x_tw b c 9 q) true)
  else if x_wOK b 10 q then (x_mB b c (x_tw b c 10 q), x_mQ b c (x_tw b c 10 q), x_mV b c v (x_tw b c 10 q))
  else (false, q, v)
theorem ok_mq {b : Nat → Int32} {c : Nat} {q : XQ} (h : XOK c q) (hc : c ≤ 120) : XOK c (x_mQ b c q) := by
  unfold x_mQ
  split
  · exact ok_tn (ok_tn h hc) hc
  · exact ok_tn h hc
theorem ok_it {b : Nat → Int32} {c : Nat} {v : AV} {q : XQ} (h : XOK c q) (hc : c ≤ 120) : XOK c (x_it b c v q).2.1 := by
  unfold x_it
  split
  · exact ok_tr (ok_tw h hc) hc
  · split
    · exact ok_tn (ok_tw h hc) hc
    · split
      · exact ok_tn (ok_tw h hc) hc
      · split
        · exact ok_mq (ok_tw h hc) hc
        · exact h
