/-! ===== the class's text: all items ===== -/
abbrev XR := Int32 × XQ × AV
def x_no (p : Bool × XQ × AV) : XR := (-1 - nI p.2.1.1, p.2.1, p.2.2)
def x_lL (b : Nat → Int32) (c : Nat) : Nat → AV → XQ → Nat → XR
  | 0, v, q, _ => (-1 - nI q.1, q, v)
  | k + 1, v, q, n =>
    if (x_it b c v q).1 then
      if (x_it b c v q).2.1.2.2.1 = 0 then (nI n, (x_it b c v q).2.1, (x_it b c v q).2.2)
      else if (x_it b c v q).2.1.2.2.1 = 3 then x_lL b c k (x_it b c v q).2.2 (x_adv b c (x_it b c v q).2.1) (n + 1)
      else x_no (x_it b c v q)
    else x_no (x_it b c v q)
def x_q0 (b : Nat → Int32) (c : Nat) (q : XQ) : XQ := x_adv b c (q.1, 0, q.2.2.1, q.2.2.2)
def x_lo (b : Nat → Int32) (c : Nat) (v : AV) (q : XQ) : XR := x_lL b c 120 v (x_q0 b c q) 1
