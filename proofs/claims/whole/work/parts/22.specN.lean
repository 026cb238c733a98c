/-! ===== the class: its calls on trees and messages, and what is best ===== -/
def cIn (hi x : Int32) : Bool := !(decide (x < 0)) && !(decide (hi ≤ x))
def cAg (x : Int32) : Bool := !(decide (x < 0)) && !(decide (999 < x))
def cTo (hi x : Int32) : Bool := !(decide (x < 0)) && decide (x ≤ hi)
def cYe (x : Int32) : Bool := !(decide (x < 1)) && decide (x ≤ 100)
def cU (x y : Int32) : Bool := decide (y = 0) || (decide (x = y) || ((decide (x = 4) && decide (y = 1)) || (decide (x = 5) && decide (y = 2))))
def av_kind (q : AV) (t : Nat) (k : Int32) : AV := (q.1, q.2.1, upd q.2.2.1 t k, q.2.2.2)
def av_aged (q : AV) (t : Nat) (v : Int32) : AV := (q.1, q.2.1, q.2.2.1, upd q.2.2.2.1 t v, q.2.2.2.2)
def av_fgS (m t : Nat) (q : AV) : AV := av_lose q t m
def av_fg (q : AV) (m : Nat) : AV := it (av_fgS m) 12 q
theorem cpN_ge {i j : Nat} {f g : Nat → Int32} (h : i ≤ j) : cpN i f g j = g j := by
  have : ¬ j < i := by omega
  simp [cpN, this]
theorem cpN_skip {i : Nat} {f g : Nat → Int32} (h : f i = g i) : cpN i f g = cpN (i + 1) f g := by
  rw [← cpN_s]
  funext k
  by_cases e : k = i
  · subst e; simp [upd, h, cpN]
  · simp [upd, e]
/-- in how many years each tree knows a message first, j years gone through -/
def liR (q : AV) (m : Nat) : Nat → Nat → Int32
  | 0, _ => 201
  | j + 1, t => if decide (liR q m j t = 201) && av_k (av_ys (1 <<< (nI m &&& 31)) j q) t m then nI j else liR q m j t
def laR (f : Nat → Int32) : Nat → Nat
  | 0 => 0
  | k + 1 => if f (k + 1) ≤ f (laR f k) then laR f k else k + 1
theorem laR_le (f : Nat → Int32) : ∀ k, laR f k ≤ k := by
  intro k
  induction k with
  | zero => exact Nat.le_refl 0
  | succ k ih => rw [laR]; split <;> omega
-- (soonest, best, what is supposed)
abbrev T3 : Type := Int32 × Int32 × AV
def skS (n : Nat) (so : Int32) : Int32 := if so ≤ nI n then so else nI n
def skB (n : Nat) (so be : Int32) (v : Nat) : Int32 := if so ≤ nI n then be else nI v
def cinS (r : AV) (m p : Nat) (q : T3) : T3 := if av_met r p then q else (skS (av_gh (av_setI r p true) m) q.1, skB (av_gh (av_setI r p true) m) q.1 q.2.1 p, av_goS (av_setI r p true) m)
def cin (r : AV) (m : Nat) : T3 := it (cinS r m) 6 (nI (av_gh r m), -1, av_goS r m)
def cliS (r : AV) (m t : Nat) (q : T3) : T3 := if r.2.2.1 t = 0 then q else (skS (av_gh (av_kind r t 0) m) q.1, skB (av_gh (av_kind r t 0) m) q.1 q.2.1 t, av_goS (av_kind r t 0) m)
def cli (r : AV) (m : Nat) : T3 := it (cliS r m) 12 (nI (av_gh r m), -1, av_goS r m)
def ckiS (r : AV) (t m k : Nat) (q : T3) : T3 := (skS (av_gh (av_kind r t (nI k)) m) q.1, skB (av_gh (av_kind r t (nI k)) m) q.1 q.2.1 k, av_goS (av_kind r t (nI k)) m)
def cki (r : AV) (t m : Nat) (tr : AV) : T3 := it (ckiS r t m) 6 (201, -1, tr)
def csiS (r : AV) (m t : Nat) (q : T3) : T3 := (skS (av_gh (av_learn r t m) m) q.1, skB (av_gh (av_learn r t m) m) q.1 q.2.1 t, av_goS (av_learn r t m) m)
def csi (r : AV) (m : Nat) (tr : AV) : T3 := it (csiS r m) 2 (201, -1, tr)
-- (latest, best, ..)
def cneS (r : AV) (m t : Nat) (q : T3) : T3 := (ltS q.1 (nI (av_gh (av_anew r t 3 0) m)), ltB q.2.1 q.1 (nI t) (nI (av_gh (av_anew r t 3 0) m)), av_goS (av_anew r t 3 0) m)
def cne (r : AV) (m : Nat) (tr : AV) : T3 := it (cneS r m) 12 (-1, 0, tr)
def cdeA (r : AV) (n d : Nat) : AV := av_ys 255 (n - d) (av_bl (av_ys 255 d r))
def cdeS (r : AV) (n d : Nat) (q : T3) : T3 := (ltS q.1 (av_all (cdeA r n d)), ltB q.2.1 q.1 (nI d) (av_all (cdeA r n d)), cdeA r n d)
def cde (r : AV) (n : Nat) (br : AV) : T3 := it (cdeS r n) (n + 1) (-1, 0, br)
