/-! ===== the class: an avenue (year, introduced, kinds, ages, known, learnt) ===== -/
abbrev AV : Type := Int32 × Int32 × (Nat → Int32) × (Nat → Int32) × (Nat → Int32) × (Nat → Int32)
def bc1 (x : Int32) : Int32 := x - ((x.toUInt32 >>> ((1 : Int32).toUInt32 &&& Int32.toUInt32 31)).toInt32 &&& 1431655765)
def bc2 (x : Int32) : Int32 := (x &&& 858993459) + ((x.toUInt32 >>> ((2 : Int32).toUInt32 &&& Int32.toUInt32 31)).toInt32 &&& 858993459)
def bc3 (x : Int32) : Int32 := (x + (x.toUInt32 >>> ((4 : Int32).toUInt32 &&& Int32.toUInt32 31)).toInt32) &&& 252645135
def bc4 (x : Int32) : Int32 := x + (x.toUInt32 >>> ((8 : Int32).toUInt32 &&& Int32.toUInt32 31)).toInt32
def bc5 (x : Int32) : Int32 := x + (x.toUInt32 >>> ((16 : Int32).toUInt32 &&& Int32.toUInt32 31)).toInt32
def bcI (x : Int32) : Int32 := bc5 (bc4 (bc3 (bc2 (bc1 x)))) &&& 63
theorem bc_pc8 : ∀ k, k < 256 → bcI (nI k) = nI (pc8 k) := by decide +kernel
theorem cpy_all {f g : Nat → Int32} {n : Nat} : ∀ j, j < n → va_cpy f g 0 0 n j = f j := by
  intro j hj
  simp [va_cpy, hj]
def av_anew (q : AV) (t : Nat) (k a : Int32) : AV := (q.1, q.2.1, upd q.2.2.1 t k, upd q.2.2.2.1 t a, upd q.2.2.2.2.1 t 0, q.2.2.2.2.2)
def av_k (q : AV) (t m : Nat) : Bool := decide ((q.2.2.2.2.1 t >>> (nI m &&& 31)) &&& 1 = 1)
def av_learn (q : AV) (t m : Nat) : AV := (q.1, q.2.1, q.2.2.1, q.2.2.2.1, upd q.2.2.2.2.1 t (q.2.2.2.2.1 t ||| (1 <<< (nI m &&& 31))), upd q.2.2.2.2.2 (t * 8 + m) q.1)
def av_lose (q : AV) (t m : Nat) : AV := (q.1, q.2.1, q.2.2.1, q.2.2.2.1, upd q.2.2.2.2.1 t (q.2.2.2.2.1 t &&& ((1 <<< (nI m &&& 31)) ^^^ (-1))), q.2.2.2.2.2)
def av_home (q : AV) : Int32 := q.2.2.2.2.1 10 ||| q.2.2.2.2.1 11
def av_anyS (q : AV) (t : Nat) (k : Int32) : Int32 := k ||| q.2.2.2.2.1 t
def av_any (q : AV) : Int32 := it (av_anyS q) 12 0
def av_allS (q : AV) (t : Nat) (n : Int32) : Int32 := n + bcI (q.2.2.2.2.1 t)
def av_all (q : AV) : Int32 := it (av_allS q) 12 0
def av_knS (q : AV) (m t n : Nat) : Nat := if av_k q t m then n + 1 else n
def av_kn (q : AV) (m : Nat) : Nat := it (av_knS q m) 12 0
def av_ttS (q : AV) (t n : Nat) : Nat := if q.2.2.2.2.1 t = 0 then n else n + 1
def av_tt (q : AV) : Nat := it (av_ttS q) 12 0
def av_met (q : AV) (pl : Nat) : Bool := decide ((q.2.1 >>> (nI pl &&& 31)) &&& 1 = 1)
def av_setI (q : AV) (pl : Nat) (b : Bool) : AV := (q.1, if b then q.2.1 ||| (1 <<< (nI pl &&& 31)) else q.2.1 &&& ((1 <<< (nI pl &&& 31)) ^^^ (-1)), q.2.2)
def av_agS (q : AV) (t : Nat) (n : Int32) : Int32 := n + q.2.2.2.1 t
def av_ag (q : AV) : Int32 := it (av_agS q) 12 0
def av_nlS (q : AV) (t n : Nat) : Nat := if q.2.2.1 t = 0 then n else n + 1
def av_nl (q : AV) : Nat := it (av_nlS q) 12 0
def av_sap (q : AV) (t : Nat) : Int32 := 3 + (if 0 < 10 - q.2.2.2.1 t then 10 - q.2.2.2.1 t else 0)
def av_leans (q : AV) (t : Nat) : Int32 := if q.2.2.1 t = 1 then 7 else if q.2.2.1 t = 2 then av_sap q t else if q.2.2.1 t = 3 then 999 else if q.2.2.1 t = 4 then 14 else if q.2.2.1 t = 5 then av_sap q t - 2 else 3
def av_nods (q : AV) (t : Nat) : Int32 := if q.2.2.1 t = 1 then 2 else if q.2.2.1 t = 2 then (if 20 ≤ q.2.2.2.1 t then 1 else 2) else if q.2.2.1 t = 3 then 999 else if q.2.2.1 t = 4 then 2 else if q.2.2.1 t = 5 then (if 20 ≤ q.2.2.2.1 t then 1 else 2) else 1
def av_hear (q : AV) (t : Nat) (b : Bool) : Bool := if q.2.2.1 t = 1 then !(decide (q.1 - q.1 / 3 * 3 = 0)) else if q.2.2.1 t = 2 then !(decide (q.2.2.2.1 t < 5)) else if q.2.2.1 t = 3 then false else if q.2.2.1 t = 4 then !(decide (q.1 - q.1 / 3 * 3 = 0)) else if q.2.2.1 t = 5 then (b || !(decide (q.2.2.2.1 t < 5))) else true
def av_tfB (q : AV) (w : Nat) (ms wt : Int32) (m : Nat) : Bool := decide ((ms >>> (nI m &&& 31)) &&& 1 = 1) && !(decide (q.1 - q.2.2.2.2.2 (w * 8 + m) < wt))
def av_tfS (t w : Nat) (ms wt : Int32) (m : Nat) (q : AV) : AV := if av_tfB q w ms wt m then av_learn q t m else q
def av_tf (q : AV) (t w : Nat) (ms wt : Int32) : AV := it (av_tfS t w ms wt) 8 q
-- a tree listens
def av_un (q : AV) (t : Nat) (mk : Int32) : Int32 := mk &&& (q.2.2.2.2.1 t ^^^ (-1))
def av_lt (q : AV) (t : Nat) (mk : Int32) : Int32 := if t < 2 then 0 else av_un q t mk &&& q.2.2.2.2.1 (t - 2)
def av_nd (q : AV) (t : Nat) (mk : Int32) : Int32 := if av_met q (t / 2) then av_un q t mk &&& q.2.2.2.2.1 (t ^^^ 1) else 0
def av_ls1 (q : AV) (t : Nat) (mk : Int32) : AV := if !(decide (av_lt q t mk = 0)) && av_hear q t false then av_tf q t (t - 2) (av_lt q t mk) (av_leans q (t - 2)) else q
def av_ls (q : AV) (t : Nat) (mk : Int32) : AV := if !(decide (av_nd q t mk = 0)) && av_hear (av_ls1 q t mk) t true then av_tf (av_ls1 q t mk) t (t ^^^ 1) (av_nd q t mk) (av_nods (av_ls1 q t mk) (t ^^^ 1)) else av_ls1 q t mk
def av_agS1 (t : Nat) (q : AV) : AV := (q.1, q.2.1, q.2.2.1, upd q.2.2.2.1 t (if 999 < q.2.2.2.1 t + 1 then 999 else q.2.2.2.1 t + 1), q.2.2.2.2)
def av_age (q : AV) : AV := it av_agS1 12 q
def av_lsS (mk : Int32) (t : Nat) (q : AV) : AV := av_ls q t mk
def av_yr1 (mk : Int32) (q : AV) : AV := it (av_lsS mk) 12 (av_age q)
def av_yr (mk : Int32) (q : AV) : AV := ((av_yr1 mk q).1 + 1, (av_yr1 mk q).2)
def av_ys (mk : Int32) (n : Nat) (q : AV) : AV := it (fun _ => av_yr mk) n q
-- a gale
def av_blS2 (k : Int32) (t m : Nat) (q : AV) : AV := if decide ((k >>> (nI m &&& 31)) &&& 1 = 1) && !(av_k q t m) then av_learn q t m else q
def av_blS (k : Int32) (t : Nat) (q : AV) : AV := if av_hear q t true then it (av_blS2 k t) 8 q else q
def av_bl (q : AV) : AV := it (av_blS (av_any q)) 12 q
-- home
def av_hm (q : AV) (m : Nat) : Bool := av_k q 10 m || av_k q 11 m
def av_hmP (q : AV) (m j : Nat) : Bool := av_hm (av_ys (1 <<< (nI m &&& 31)) j q) m
def av_gh (q : AV) (m : Nat) : Nat := ff (av_hmP q m) 201 0
theorem gh_le (q : AV) (m : Nat) : av_gh q m ≤ 201 := by have := ff_le (av_hmP q m) 201 0; unfold av_gh; omega
def av_goS (q : AV) (m : Nat) : AV := av_ys (1 <<< (nI m &&& 31)) (av_gh q m) q
theorem sub2_all : ∀ j, j < 2 → nI j - 2 < 0 := by decide +kernel
theorem sub2 (t : Nat) (h : t < 2) : nI t - 2 < 0 := sub2_all t h
