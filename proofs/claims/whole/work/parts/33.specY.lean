/-! ===== the class's text: items ===== -/
def x_nn (mx : Nat) (q : XQ) : Nat := (x_nr mx q).toNatClampNeg
def x_pV (v : AV) (q : XQ) (b : Bool) : AV := if 0 ≤ x_nr 5 q then av_setI v (x_nn 5 q) b else v
def x_m1 (b : Nat → Int32) (c : Nat) (q : XQ) : XQ := x_tn b c 7 q
def x_mQ (b : Nat → Int32) (c : Nat) (q : XQ) : XQ := if 0 ≤ x_nr 7 q then x_tn b c 1 (x_m1 b c q) else x_m1 b c q
def x_mB (b : Nat → Int32) (c : Nat) (q : XQ) : Bool := decide (0 ≤ x_nr 7 q) && decide (0 ≤ x_nr 1 (x_m1 b c q))
def x_mV (b : Nat → Int32) (c : Nat) (v : AV) (q : XQ) : AV := if x_mB b c q then (if av_k v (x_nn 1 (x_m1 b c q)) (x_nn 7 q) then v else av_learn v (x_nn 1 (x_m1 b c q)) (x_nn 7 q)) else v
-- a tree: behind 'at', the place, the side, 'age', the age
def x_t1 (b : Nat → Int32) (c : Nat) (q : XQ) : XQ := x_tw b c 6 q
def x_t2 (b : Nat → Int32) (c : Nat) (q : XQ) : XQ := x_tn b c 5 (x_t1 b c q)
def x_t3 (b : Nat → Int32) (c : Nat) (q : XQ) : XQ := x_tn b c 1 (x_t2 b c q)
def x_t4 (b : Nat → Int32) (c : Nat) (q : XQ) : XQ := x_tw b c 7 (x_t3 b c q)
def x_t5 (b : Nat → Int32) (c : Nat) (q : XQ) : XQ := x_tn b c 999 (x_t4 b c q)
def x_tT (b : Nat → Int32) (c : Nat) (q : XQ) : Nat := 2 * x_nn 5 (x_t1 b c q) + x_nn 1 (x_t2 b c q)
/-- whether it is one, the state behind it, the avenue behind it -/
def x_tr (b : Nat → Int32) (c : Nat) (v : AV) (k : Int32) (q : XQ) : Bool × XQ × AV :=
  if x_wOK b 6 q then
    if 0 ≤ x_nr 5 (x_t1 b c q) then
      if 0 ≤ x_nr 1 (x_t2 b c q) then
        if x_wOK b 7 (x_t3 b c q) then
          if 0 ≤ x_nr 999 (x_t4 b c q) then (true, x_t5 b c q, av_anew v (x_tT b c q) k (x_nr 999 (x_t4 b c q)))
          else (false, x_t5 b c q, v)
        else (true, x_t4 b c q, av_anew v (x_tT b c q) k 0)
      else (false, x_t3 b c q, v)
    else (false, x_t2 b c q, v)
  else (false, x_t1 b c q, v)
theorem ok_x1 {b : Nat → Int32} {c : Nat} {q : XQ} (h : XOK c q) (hc : c ≤ 120) : XOK c (x_t1 b c q) := ok_tw h hc
theorem ok_x2 {b : Nat → Int32} {c : Nat} {q : XQ} (h : XOK c q) (hc : c ≤ 120) : XOK c (x_t2 b c q) := ok_tn (ok_x1 h hc) hc
theorem ok_x3 {b : Nat → Int32} {c : Nat} {q : XQ} (h : XOK c q) (hc : c ≤ 120) : XOK c (x_t3 b c q) := ok_tn (ok_x2 h hc) hc
theorem ok_x4 {b : Nat → Int32} {c : Nat} {q : XQ} (h : XOK c q) (hc : c ≤ 120) : XOK c (x_t4 b c q) := ok_tw (ok_x3 h hc) hc
theorem ok_x5 {b : Nat → Int32} {c : Nat} {q : XQ} (h : XOK c q) (hc : c ≤ 120) : XOK c (x_t5 b c q) := ok_tn (ok_x4 h hc) hc
theorem ok_tr {b : Nat → Int32} {c : Nat} {v : AV} {k : Int32} {q : XQ} (h : XOK c q) (hc : c ≤ 120) : XOK c (x_tr b c v k q).2.1 := by
  unfold x_tr
  split
  · split
    · split
      · split
        · split
          · exact ok_x5 h hc
          · exact ok_x5 h hc
        · exact ok_x4 h hc
      · exact ok_x3 h hc
    · exact ok_x2 h hc
  · exact ok_x1 h hc
