/-! ===== the class: sheets, images, the tape ===== -/
def hsOK (f n sz : Int32) : Bool := !(decide (f < 0)) && (!(decide (n < 0)) && (!(decide (sz < n)) && !(decide (sz - n < f))))
def cLyB (v : Int64) : Bool := !(decide (v < 0)) && !(decide (999 < v))
def cLyS (nu : Nat → Int64) (k : Nat) (q : AV × Nat) : AV × Nat := if cLyB (nu k) then (av_aged q.1 k (nu k).toInt32, q.2 + 1) else q
def cBkF (b : Int32) (r : AV) (t : Nat) : Nat → Int64 := fun k => nrw b ((av_ys 255 k r).2.2.2.2.1 t).toInt64
def cRdP (nu : Nat → Int64) (q : AV) (t k : Nat) : Bool := !(decide (nu k = ((av_ys 255 k q).2.2.2.2.1 t).toInt64))
def cRd (nu : Nat → Int64) (z : Nat) (q : AV) (t : Nat) : Nat := ff (cRdP nu q t) z 0
def cRdZ (r : AV) (t u k1 k2 : Nat) : AV := av_kind (av_kind r t (nI k1)) u (nI k2)
def cRdS (nu : Nat → Int64) (z : Nat) (r : AV) (t u k1 k2 : Nat) (q : Nat × AV) : Nat × AV := (if z ≤ cRd nu z (cRdZ r t u k1 k2) t then q.1 + 1 else q.1, av_ys 255 (cRd nu z (cRdZ r t u k1 k2) t) (cRdZ r t u k1 k2))
def cRdO (nu : Nat → Int64) (z : Nat) (r : AV) (t u k1 : Nat) (q : Nat × AV) : Nat × AV := it (cRdS nu z r t u k1) 6 q
def cFeS (b : Int32) (n c i : Nat) (t : Nat → Int32) : Nat → Int32 := upd t (c + i) (vp_nar .byte (b >>> (nI (8 * (n - i - 1)) &&& 31)).toInt8.toInt32)
def cStA (fo : Nat → Int32) (k : Nat) (n : Int32) : Int32 := n + fo k
theorem m1_all : ∀ w, w < 7 → ¬ nI w < -1 := by decide +kernel
