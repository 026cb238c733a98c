/-! ===== the reference, as functions of its rows ===== -/
theorem nI_or (a b : Nat) : nI a ||| nI b = nI (a ||| b) := by
  apply Int32.toBitVec_inj.mp
  rw [Int32.toBitVec_or]
  show BitVec.ofNat 32 a ||| BitVec.ofNat 32 b = BitVec.ofNat 32 (a ||| b)
  apply BitVec.eq_of_getLsbD_eq
  intro i hi
  simp [BitVec.getLsbD_ofNat, hi]
theorem nI_xor (a b : Nat) : nI a ^^^ nI b = nI (a ^^^ b) := by
  apply Int32.toBitVec_inj.mp
  rw [Int32.toBitVec_xor]
  show BitVec.ofNat 32 a ^^^ BitVec.ofNat 32 b = BitVec.ofNat 32 (a ^^^ b)
  apply BitVec.eq_of_getLsbD_eq
  intro i hi
  simp [BitVec.getLsbD_ofNat, hi]
theorem shl1 : ∀ m, m < 31 → (1 : Int32) <<< (nI m &&& 31) = nI (2 ^ m) := by decide +kernel
theorem sh_smod : ∀ m, m < 31 → ((nI m &&& 31).toBitVec.smod 32).toNat = m := by decide +kernel
theorem bit_t {k m : Nat} (hk : k < 2 ^ 31) (hm : m < 31) : ((nI k >>> (nI m &&& 31)) &&& 1) = nI (k / 2 ^ m % 2) := by
  rw [pk_shrN hk _ m (sh_smod m hm)]
  have := pk_andN (n := k / 2 ^ m) (m := 1) (Nat.lt_of_le_of_lt (Nat.div_le_self _ _) (by omega)) 1 (by decide)
  simpa using this
theorem bit_1 {k m : Nat} (hk : k < 2 ^ 31) (hm : m < 31) : ((nI k >>> (nI m &&& 31)) &&& 1 = 1) ↔ k.testBit m = true := by
  rw [bit_t hk hm, Nat.testBit_eq_decide_div_mod_eq]
  have h : k / 2 ^ m % 2 < 2 := Nat.mod_lt _ (by omega)
  have e : (nI (k / 2 ^ m % 2) = 1) ↔ k / 2 ^ m % 2 = 1 := nI_eq (b := 1) (by omega) (by omega)
  simp [e]
def cpN (i : Nat) (f g : Nat → Int32) : Nat → Int32 := fun k => if k < i then f k else g k
theorem cpN_0 (f g : Nat → Int32) : cpN 0 f g = g := by funext k; simp [cpN]
theorem cpN_s (i : Nat) (f g : Nat → Int32) : upd (cpN i f g) i (f i) = cpN (i + 1) f g := by
  funext k
  by_cases h : k = i
  · subst h; simp [upd, cpN]
  · have e : (k < i + 1) ↔ k < i := by omega
    simp [upd, cpN, h, e]
theorem cpN_in {i j : Nat} {f g : Nat → Int32} (h : j < i) : cpN i f g j = f j := by simp [cpN, h]
def inR (v lo hi : Int64) : Bool := !(decide (v < lo)) && !(decide (hi < v))
def inI (x : Int32) (lo hi : Int64) : Bool := inR x.toInt64 lo hi
def pc8 (k : Nat) : Nat := k % 2 + k / 2 % 2 + k / 4 % 2 + k / 8 % 2 + k / 16 % 2 + k / 32 % 2 + k / 64 % 2 + k / 128 % 2
theorem pc8_step : ∀ k, k < 256 → 0 < k → (nI k &&& (nI k - 1)) = nI (k &&& (k - 1)) ∧ (k &&& (k - 1)) < k ∧ pc8 (k &&& (k - 1)) + 1 = pc8 k := by decide +kernel
theorem pc8_le (k : Nat) : pc8 k ≤ 8 := by unfold pc8; omega
def ms_k (s : Nat → Int32) (t m : Nat) : Bool := !(decide (s (2 + 10 * t + (2 + m)) = -1))
def ms_young (s : Nat → Int32) (t : Nat) : Int32 := if 10 ≤ s (2 + 10 * t + 1) then 0 else 10 - s (2 + 10 * t + 1)
def ms_leans (s : Nat → Int32) (t : Nat) : Int32 := if s (2 + 10 * t) = 1 then 7 else if s (2 + 10 * t) = 2 then 3 + ms_young s t else if s (2 + 10 * t) = 3 then 999 else if s (2 + 10 * t) = 4 then 14 else if s (2 + 10 * t) = 5 then 1 + ms_young s t else 3
def ms_nods (s : Nat → Int32) (t : Nat) : Int32 := if s (2 + 10 * t) = 1 then 2 else if s (2 + 10 * t) = 2 then (if 20 ≤ s (2 + 10 * t + 1) then 1 else 2) else if s (2 + 10 * t) = 3 then 999 else if s (2 + 10 * t) = 4 then 2 else if s (2 + 10 * t) = 5 then (if 20 ≤ s (2 + 10 * t + 1) then 1 else 2) else 1
def ms_hear (s : Nat → Int32) (t : Nat) (b : Bool) : Bool := if s (2 + 10 * t) = 1 then !(decide (s 0 - s 0 / 3 * 3 = 0)) else if s (2 + 10 * t) = 2 then !(decide (s (2 + 10 * t + 1) < 5)) else if s (2 + 10 * t) = 3 then false else if s (2 + 10 * t) = 4 then !(decide (s 0 - s 0 / 3 * 3 = 0)) else if s (2 + 10 * t) = 5 then (b || !(decide (s (2 + 10 * t + 1) < 5))) else true
def ms_kbS (s : Nat → Int32) (t m k : Nat) : Nat := k ||| (if ms_k s t m then 2 ^ m else 0)
def ms_kb (s : Nat → Int32) (t : Nat) : Nat := it (ms_kbS s t) 8 0
theorem or_lt8 {a b n : Nat} (ha : a < 2 ^ n) (hb : b < 2 ^ n) : a ||| b < 2 ^ n := Nat.or_lt_two_pow ha hb
theorem kbS_lt {s : Nat → Int32} {t m k : Nat} (hm : m < 8) (hk : k < 256) : ms_kbS s t m k < 256 := by
  unfold ms_kbS
  have h2 : 2 ^ m < 256 := Nat.pow_lt_pow_right (by omega) (show m < 8 from hm)
  exact or_lt8 (n := 8) hk (by split <;> omega)
theorem kb_lt_i (s : Nat → Int32) (t : Nat) : ∀ i, i ≤ 8 → it (ms_kbS s t) i 0 < 256 := by
  intro i
  induction i with
  | zero => intro _; rw [it_0]; omega
  | succ i ih => intro h; rw [it_s]; exact kbS_lt (by omega) (ih (by omega))
theorem kb_lt (s : Nat → Int32) (t : Nat) : ms_kb s t < 256 := kb_lt_i s t 8 (by omega)
def ms_met (s : Nat → Int32) (p : Nat) : Bool := decide ((s 1 >>> (nI p &&& 31)) &&& 1 = 1)
def ms_meets (s : Nat → Int32) (p : Nat) (b : Bool) : Nat → Int32 := upd s 1 (if b then s 1 ||| (1 <<< (nI p &&& 31)) else s 1 &&& ((1 <<< (nI p &&& 31)) ^^^ (-1)))
def ms_setS (t m : Nat) (s : Nat → Int32) : Nat → Int32 := upd s (2 + 10 * t + (2 + m)) (-1)
def ms_sets (s : Nat → Int32) (t : Nat) (k a : Int32) : Nat → Int32 := it (ms_setS t) 8 (upd (upd s (2 + 10 * t) k) (2 + 10 * t + 1) a)
def ms_knS (s : Nat → Int32) (m t n : Nat) : Nat := n + (if ms_k s t m then 1 else 0)
def ms_kn (s : Nat → Int32) (m : Nat) : Nat := it (ms_knS s m) 12 0
theorem knS_le {s : Nat → Int32} {m t n : Nat} : ms_knS s m t n ≤ n + 1 := by unfold ms_knS; split <;> omega
theorem kn_le_i (s : Nat → Int32) (m : Nat) : ∀ i, it (ms_knS s m) i 0 ≤ i := by
  intro i
  induction i with
  | zero => exact Nat.le_refl 0
  | succ i ih => rw [it_s]; exact Nat.le_trans knS_le (by omega)
def ms_told (s : Nat → Int32) (t m : Nat) (w : Int32) : Bool := ms_k s t m && !(decide (s 0 - s (2 + 10 * t + (2 + m)) < w))
def ms_newsB (s : Nat → Int32) (t m : Nat) : Bool := !(ms_k s t m) && ((!(decide (t ≤ 1)) && ms_hear s t false && ms_told s (t - 2) m (ms_leans s (t - 2))) || (ms_met s (t / 2) && ms_hear s t true && ms_told s (t ^^^ 1) m (ms_nods s (t ^^^ 1))))
def ms_newsS (s : Nat → Int32) (t m k : Nat) : Nat := k ||| (if ms_newsB s t m then 2 ^ m else 0)
def ms_news (s : Nat → Int32) (t : Nat) : Nat := it (ms_newsS s t) 8 0
theorem newsS_lt {s : Nat → Int32} {t m k : Nat} (hm : m < 8) (hk : k < 256) : ms_newsS s t m k < 256 := by
  unfold ms_newsS
  have h2 : 2 ^ m < 256 := Nat.pow_lt_pow_right (by omega) (show m < 8 from hm)
  exact or_lt8 (n := 8) hk (by split <;> omega)
theorem news_lt_i (s : Nat → Int32) (t : Nat) : ∀ i, i ≤ 8 → it (ms_newsS s t) i 0 < 256 := by
  intro i
  induction i with
  | zero => intro _; rw [it_0]; omega
  | succ i ih => intro h; rw [it_s]; exact newsS_lt (by omega) (ih (by omega))
theorem news_lt (s : Nat → Int32) (t : Nat) : ms_news s t < 256 := news_lt_i s t 8 (by omega)
theorem xor1_all : ∀ t, t < 12 → t ^^^ 1 < 12 := by decide +kernel
theorem xor1_lt {t : Nat} (h : t < 12) : t ^^^ 1 < 12 := xor1_all t h
def ms_lS (t k : Nat) (m : Nat) (q : (Nat → Int32) × Nat) : (Nat → Int32) × Nat := if k.testBit m && !(ms_k q.1 t m) then (upd q.1 (2 + 10 * t + (2 + m)) (q.1 0), q.2 + 1) else q
def ms_ln (s : Nat → Int32) (t k : Nat) : (Nat → Int32) × Nat := it (ms_lS t k) 8 (s, 0)
theorem lS_le {t k m : Nat} {q : (Nat → Int32) × Nat} : (ms_lS t k m q).2 ≤ q.2 + 1 := by
  unfold ms_lS
  split <;> simp
theorem ln_le_i (s : Nat → Int32) (t k : Nat) : ∀ i, (it (ms_lS t k) i (s, 0)).2 ≤ i := by
  intro i
  induction i with
  | zero => exact Nat.le_refl 0
  | succ i ih => rw [it_s]; exact Nat.le_trans lS_le (by omega)
def ms_ageS (t : Nat) (s : Nat → Int32) : Nat → Int32 := upd s (2 + 10 * t + 1) (s (2 + 10 * t + 1) + (if 999 ≤ s (2 + 10 * t + 1) then 0 else 1))
def ms_age (s : Nat → Int32) : Nat → Int32 := it ms_ageS 12 s
def ms_gets (s : Nat → Int32) : Nat → Int32 := fun t => nI (ms_news (ms_age s) t)
def ms_hearsS (g : Nat → Nat) (t : Nat) (s : Nat → Int32) : Nat → Int32 := (ms_ln s t (g t)).1
def ms_year1 (s : Nat → Int32) : Nat → Int32 := it (ms_hearsS (ms_news (ms_age s))) 12 (ms_age s)
def ms_year (s : Nat → Int32) : Nat → Int32 := upd (ms_year1 s) 0 (ms_year1 s 0 + 1)
def ms_yearP (q : (Nat → Int32) × (Nat → Int32)) : (Nat → Int32) × (Nat → Int32) := (ms_year q.1, ms_gets q.1)
def ms_years (n : Nat) (s g : Nat → Int32) : (Nat → Int32) × (Nat → Int32) := it (fun _ => ms_yearP) n (s, g)
def ms_home (s : Nat → Int32) : Nat := ms_kb s 10 ||| ms_kb s 11
def ms_allS (s : Nat → Int32) (t k : Nat) : Nat := k ||| ms_kb s t
def ms_all (s : Nat → Int32) : Nat := it (ms_allS s) 12 0
theorem all_lt_i (s : Nat → Int32) : ∀ i, it (ms_allS s) i 0 < 256 := by
  intro i
  induction i with
  | zero => rw [it_0]; omega
  | succ i ih => rw [it_s]; exact or_lt8 (n := 8) ih (kb_lt s i)
theorem all_lt (s : Nat → Int32) : ms_all s < 256 := all_lt_i s 12
def ms_blS (k : Nat) (t : Nat) (q : (Nat → Int32) × Nat) : (Nat → Int32) × Nat := if ms_hear q.1 t true then ((ms_ln q.1 t k).1, q.2 + (ms_ln q.1 t k).2) else q
def ms_bl (s : Nat → Int32) : (Nat → Int32) × Nat := it (ms_blS (ms_all s)) 12 (s, 0)
theorem ln_le (s : Nat → Int32) (t k : Nat) : (ms_ln s t k).2 ≤ 8 := ln_le_i s t k 8
theorem bl_le_i (k : Nat) (s : Nat → Int32) : ∀ i, (it (ms_blS k) i (s, 0)).2 ≤ 8 * i := by
  intro i
  induction i with
  | zero => exact Nat.le_refl 0
  | succ i ih =>
    rw [it_s]
    unfold ms_blS
    have := ln_le (it (ms_blS k) i (s, 0)).1 i k
    unfold ms_blS at this ih
    split <;> simp <;> omega
def ms_togS (s : Nat → Int32) (t n : Nat) : Nat := n + pc8 (ms_kb s t)
def ms_tog (s : Nat → Int32) : Nat := it (ms_togS s) 12 0
theorem tog_le_i (s : Nat → Int32) : ∀ i, it (ms_togS s) i 0 ≤ 8 * i := by
  intro i
  induction i with
  | zero => exact Nat.le_refl 0
  | succ i ih => rw [it_s, ms_togS]; have := pc8_le (ms_kb s i); omega
def ms_agesS (s : Nat → Int32) (t : Nat) (n : Int32) : Int32 := n + s (2 + 10 * t + 1)
def ms_ages (s : Nat → Int32) : Int32 := it (ms_agesS s) 12 0
theorem upd2 (f : Nat → Int32) (i : Nat) (x y : Int32) : upd (upd f i x) i y = upd f i y := by
  funext j
  by_cases h : j = i <;> simp [upd, h]
theorem updS (f : Nat → Int32) (i : Nat) : upd f i (f i) = f := by
  funext j
  by_cases h : j = i
  · subst h; simp [upd]
  · simp [upd, h]
theorem updS' (f : Nat → Int32) (i : Nat) (x : Int32) (h : f i = x) : upd f i x = f := by rw [← h]; exact updS f i
theorem updC (f : Nat → Int32) {i j : Nat} (h : i ≠ j) (x y : Int32) : upd (upd f i x) j y = upd (upd f j y) i x := by
  funext k
  by_cases h1 : k = i
  · subst h1; simp [upd, h]
  · by_cases h2 : k = j
    · subst h2; simp [upd, h1]
    · simp [upd, h1, h2]
theorem upd4 (f : Nat → Int32) {a b : Nat} (h : a ≠ b) (x y : Int32) : upd (upd (upd (upd f a x) b y) a (f a)) b (upd f a x b) = f := by
  funext k
  by_cases h1 : k = a
  · subst h1; simp [upd, h]
  · by_cases h2 : k = b
    · subst h2; simp [upd, h1]
    · simp [upd, h1, h2]
theorem inR_n {v lo hi : Nat} (h1 : lo ≤ v) (h2 : v ≤ hi) (h3 : hi < 2 ^ 31) : inR (lN v) (lN lo) (lN hi) = true := by
  have e1 : ¬ lN v < lN lo := fun e => by have := (lN_lt (by omega) (by omega)).mp e; omega
  have e2 : ¬ lN hi < lN v := fun e => by have := (lN_lt (by omega) (by omega)).mp e; omega
  simp [inR, e1, e2]
/-- the years ahead: the row s, and the scratch row -/
def ms_ys (n : Nat) (s : Nat → Int32) : Nat → Int32 := it (fun _ => ms_year) n s
def ms_gs : Nat → (Nat → Int32) → (Nat → Int32) → Nat → Int32
  | 0, _, ge => ge
  | n + 1, s, _ => ms_gets (ms_ys n s)
/-- the first place from j on, within k, with P; else j + k -/
def ff (P : Nat → Bool) : Nat → Nat → Nat
  | 0, j => j
  | k + 1, j => if P j then j else ff P k (j + 1)
theorem ff_le (P : Nat → Bool) : ∀ k j, ff P k j ≤ j + k := by
  intro k
  induction k with
  | zero => intro j; exact Nat.le_refl _
  | succ k ih =>
    intro j
    rw [ff]
    split
    · omega
    · have := ih (j + 1); omega
theorem ff_t {P : Nat → Bool} {j N : Nat} (hj : j < N) (h : P j = true) : ff P (N - j) j = j := by
  obtain ⟨k, hk⟩ : ∃ k, N - j = k + 1 := ⟨N - j - 1, by omega⟩
  rw [hk, ff, h]; rfl
theorem ff_f {P : Nat → Bool} {j N : Nat} (hj : j < N) (h : P j = false) : ff P (N - j) j = ff P (N - (j + 1)) (j + 1) := by
  obtain ⟨k, hk⟩ : ∃ k, N - j = k + 1 := ⟨N - j - 1, by omega⟩
  have e : N - (j + 1) = k := by omega
  rw [hk, e, ff, h]; rfl
def ms_hm (s : Nat → Int32) (m : Nat) : Bool := ms_k s 10 m || ms_k s 11 m
def ms_hmP (s : Nat → Int32) (m : Nat) (j : Nat) : Bool := ms_hm (ms_ys j s) m
def ms_ktP (s : Nat → Int32) (t m : Nat) (j : Nat) : Bool := ms_k (ms_ys j s) t m
def ms_kh (s : Nat → Int32) (m : Nat) : Nat := ff (ms_hmP s m) 201 0
def ms_kt (s : Nat → Int32) (t m : Nat) : Nat := ff (ms_ktP s t m) 201 0
theorem kh_le (s : Nat → Int32) (m : Nat) : ms_kh s m ≤ 201 := by have := ff_le (ms_hmP s m) 201 0; unfold ms_kh; omega
theorem kt_le (s : Nat → Int32) (t m : Nat) : ms_kt s t m ≤ 201 := by have := ff_le (ms_ktP s t m) 201 0; unfold ms_kt; omega
def ms_und (x y : Int32) : Bool := decide (y = 0) || (decide (x = y) || (!(decide (x ≤ 3)) && decide (x - 3 = y)))
def ms_fgS (m t : Nat) (s : Nat → Int32) : Nat → Int32 := upd s (2 + 10 * t + (2 + m)) (-1)
def ms_fg (s : Nat → Int32) (m : Nat) : Nat → Int32 := it (ms_fgS m) 12 s
/-- best and soonest after a try -/
def trB (be so v n : Int32) : Int32 := if so ≤ n then be else v
def trS (so n : Int32) : Int32 := if so ≤ n then so else n
/-- found and latest, the later one taken -/
def ltB (be la v n : Int32) : Int32 := if n ≤ la then be else v
def ltS (la n : Int32) : Int32 := if n ≤ la then la else n
abbrev Q3 : Type := Int32 × Int32 × (Nat → Int32)
abbrev Q4 : Type := Int32 × Int32 × (Nat → Int32) × (Nat → Int32)
abbrev Q5 : Type := Int32 × Int32 × Int32 × (Nat → Int32) × (Nat → Int32)
def ms_laS (s : Nat → Int32) (m : Nat) (t : Nat) (q : Q3) : Q3 := (ltB q.1 q.2.1 (nI t) (nI (ms_kt s t m)), ltS q.2.1 (nI (ms_kt s t m)), ms_gs (ms_kt s t m) s q.2.2)
def ms_la (s : Nat → Int32) (m : Nat) (ge : Nat → Int32) : Q3 := it (ms_laS s m) 12 (0, -1, ge)
def ms_inZ (s : Nat → Int32) (p : Nat) : Nat → Int32 := upd s 1 (s 1 ||| 1 <<< (nI p &&& 31))
def ms_inS (s : Nat → Int32) (m : Nat) (p : Nat) (q : Q5) : Q5 := if (s 1 >>> (nI p &&& 31)) &&& 1 = 0 then (trB q.1 q.2.1 (nI p) (nI (ms_kh (ms_inZ s p) m)), trS q.2.1 (nI (ms_kh (ms_inZ s p) m)), s 1 ||| 1 <<< (nI p &&& 31), ms_inZ s p, ms_gs (ms_kh (ms_inZ s p) m) (ms_inZ s p) q.2.2.2.2) else q
def ms_in (s : Nat → Int32) (m : Nat) (ge : Nat → Int32) : Q5 := it (ms_inS s m) 6 (-1, nI (ms_kh s m), s 1, s, ms_gs (ms_kh s m) s ge)
def ms_liZ (s : Nat → Int32) (t : Nat) : Nat → Int32 := upd s (2 + 10 * t) 0
def ms_liS (s : Nat → Int32) (m : Nat) (t : Nat) (q : Q4) : Q4 := if s (2 + 10 * t) = 0 then q else (trB q.1 q.2.1 (nI t) (nI (ms_kh (ms_liZ s t) m)), trS q.2.1 (nI (ms_kh (ms_liZ s t) m)), ms_liZ s t, ms_gs (ms_kh (ms_liZ s t) m) (ms_liZ s t) q.2.2.2)
def ms_li (s : Nat → Int32) (m : Nat) (ge : Nat → Int32) : Q4 := it (ms_liS s m) 12 (-1, nI (ms_kh s m), s, ms_gs (ms_kh s m) s ge)
def ms_kiZ (s : Nat → Int32) (t k : Nat) : Nat → Int32 := upd s (2 + 10 * t) (nI k)
def ms_kiS (s : Nat → Int32) (t m : Nat) (k : Nat) (q : Q5) : Q5 := (trB q.1 q.2.1 (nI k) (nI (ms_kh (ms_kiZ s t k) m)), trS q.2.1 (nI (ms_kh (ms_kiZ s t k) m)), nI k, ms_kiZ s t k, ms_gs (ms_kh (ms_kiZ s t k) m) (ms_kiZ s t k) q.2.2.2.2)
def ms_ki (s : Nat → Int32) (t m : Nat) (as0 ge : Nat → Int32) : Q5 := it (ms_kiS s t m) 6 (-1, 201, s (2 + 10 * t), as0, ge)
def ms_deW (s : Nat → Int32) (n d : Nat) : Nat := ms_tog (ms_ys (n - d) (ms_bl (ms_ys d s)).1)
def ms_deS (s : Nat → Int32) (n : Nat) (d : Nat) (q : Q3) : Q3 := (ltB q.1 q.2.1 (nI d) (nI (ms_deW s n d)), ltS q.2.1 (nI (ms_deW s n d)), ms_gs (n - d) (ms_bl (ms_ys d s)).1 (ms_gs d s q.2.2))
def ms_de (s : Nat → Int32) (n : Nat) (ge : Nat → Int32) : Q3 := it (ms_deS s n) (n + 1) (0, -1, ge)
def ms_siZ (s : Nat → Int32) (m t : Nat) : Nat → Int32 := upd s (2 + 10 * t + (2 + m)) (s 0)
def ms_siS (s : Nat → Int32) (m : Nat) (t : Nat) (q : Q4) : Q4 := (trB q.1 q.2.1 (nI t) (nI (ms_kh (ms_siZ s m t) m)), trS q.2.1 (nI (ms_kh (ms_siZ s m t) m)), ms_siZ s m t, ms_gs (ms_kh (ms_siZ s m t) m) (ms_siZ s m t) q.2.2.2)
def ms_si (s : Nat → Int32) (m : Nat) (as0 ge : Nat → Int32) : Q4 := it (ms_siS s m) 2 (-1, 201, as0, ge)
def ms_neZ (s : Nat → Int32) (m t : Nat) : Nat → Int32 := upd (upd s (2 + 10 * t) 3) (2 + 10 * t + (2 + m)) (-1)
def ms_neS (s : Nat → Int32) (m : Nat) (t : Nat) (q : Q4) : Q4 := (ltB q.1 q.2.1 (nI t) (nI (ms_kh (ms_neZ s m t) m)), ltS q.2.1 (nI (ms_kh (ms_neZ s m t) m)), ms_neZ s m t, ms_gs (ms_kh (ms_neZ s m t) m) (ms_neZ s m t) q.2.2.2)
def ms_ne (s : Nat → Int32) (m : Nat) (as0 ge : Nat → Int32) : Q4 := it (ms_neS s m) 12 (0, -1, as0, ge)
theorem itUpd (F : Nat → Int32) (g : Nat → Int32) : ∀ n, it (fun t g => upd g t (F t)) n g = cpN n F g := by
  intro n
  induction n with
  | zero => rw [it_0, cpN_0]
  | succ n ih => rw [it_s, ih, cpN_s]
theorem prd {a : Nat} (h : 0 < a) : nI a - 1 = nI (a - 1) := by
  obtain ⟨b, rfl⟩ : ∃ b, a = b + 1 := ⟨a - 1, by omega⟩
  exact nI_pred b
theorem dec1 {n i : Nat} (h : i < n) : nI (n - i) - 1 + Int32.ofInt (-1) = nI (n - (i + 1)) - 1 := by
  obtain ⟨b, hb⟩ : ∃ b, n - i = b + 1 := ⟨n - i - 1, by omega⟩
  have e : n - (i + 1) = b := by omega
  rw [hb, e, nI_pred]
  have e2 : Int32.ofInt (-1) = -1 := by decide
  rw [e2, Int32.sub_eq_add_neg]
def ms_feS (b : Int32) (n c i : Nat) (t : Nat → Int32) : Nat → Int32 := upd t (c + i) ((b >>> (nI (8 * (n - i - 1)) &&& 31)) &&& 255)
def nrw (b : Int32) (v : Int64) : Int64 := if b = 8 then v.toInt32.toInt8.toInt32.toInt64 else if b = 16 then v.toInt32.toInt16.toInt32.toInt64 else v
def okB (b : Int32) : Bool := decide (b = 0) || (decide (b = 8) || (decide (b = 16) || decide (b = 64)))
/-- n numbers of F, from a on, in nu -/
def ptN (a n : Nat) (F nu : Nat → Int64) : Nat → Int64 := fun j => if a ≤ j ∧ j < a + n then F (j - a) else nu j
theorem ptN_0 (a : Nat) (F nu : Nat → Int64) : ptN a 0 F nu = nu := by
  funext j
  have : ¬ (a ≤ j ∧ j < a + 0) := by omega
  simp only [ptN, this, if_false]
theorem ptN_s (a n : Nat) (F nu : Nat → Int64) : vp_updL (ptN a n F nu) (a + n) (F n) = ptN a (n + 1) F nu := by
  funext j
  by_cases h : j = a + n
  · subst h
    have h1 : a ≤ a + n ∧ a + n < a + (n + 1) := by omega
    simp only [vp_updL, ptN, h1, if_true, and_self]
    congr 1; omega
  · by_cases h2 : a ≤ j ∧ j < a + n
    · have h3 : a ≤ j ∧ j < a + (n + 1) := by omega
      simp only [vp_updL, ptN, h, h2, h3, if_true, if_false, and_self]
    · have h3 : ¬ (a ≤ j ∧ j < a + (n + 1)) := by omega
      simp only [vp_updL, ptN, h, h2, h3, if_false]
def cpL (i : Nat) (f g : Nat → Int64) : Nat → Int64 := fun k => if k < i then f k else g k
theorem cpL_0 (f g : Nat → Int64) : cpL 0 f g = g := by funext k; simp [cpL]
theorem cpL_s (i : Nat) (f g : Nat → Int64) : vp_updL (cpL i f g) i (f i) = cpL (i + 1) f g := by
  funext k
  by_cases h : k = i
  · subst h; simp [vp_updL, cpL]
  · have e : (k < i + 1) ↔ k < i := by omega
    simp [vp_updL, cpL, h, e]
theorem cpL_in {i j : Nat} {f g : Nat → Int64} (h : j < i) : cpL i f g j = f j := by simp [cpL, h]
def shL (nu : Nat → Int64) (a : Nat) : Nat → Int64 := fun j => nu (a + j)
def cpOK (f g n za zb : Int32) : Bool := !(decide (f < 0)) && (!(decide (g < 0)) && (!(decide (n < 0)) && (!(decide (za - f < n)) && decide (n ≤ zb - g))))
def ms_lyV (nu : Nat → Int64) (a k : Nat) (s : Nat → Int32) : Int32 := if inR (nu (a + k)) 0 999 then (nu (a + k)).toInt32 else s (2 + 10 * k + 1)
def ms_lyS (nu : Nat → Int64) (a k : Nat) (s : Nat → Int32) : Nat → Int32 := upd s (2 + 10 * k + 1) (ms_lyV nu a k s)
def ms_lyN (nu : Nat → Int64) (a k n : Nat) : Nat := n + (if inR (nu (a + k)) 0 999 then 1 else 0)
theorem lyN_le (nu : Nat → Int64) (a : Nat) : ∀ i, it (ms_lyN nu a) i 0 ≤ i := by
  intro i
  induction i with
  | zero => exact Nat.le_refl 0
  | succ i ih => rw [it_s]; unfold ms_lyN at *; split <;> omega
def ms_bkF (b : Int32) (s : Nat → Int32) (t : Nat) : Nat → Int64 := fun k => nrw b (lN (ms_kb (ms_ys k s) t))
def ms_rdP (nu : Nat → Int64) (a : Nat) (s : Nat → Int32) (t : Nat) (k : Nat) : Bool := !(decide (nu (a + k) = lN (ms_kb (ms_ys k s) t)))
def ms_rd (nu : Nat → Int64) (a z : Nat) (s : Nat → Int32) (t : Nat) : Nat := ff (ms_rdP nu a s t) z 0
theorem rd_le (nu : Nat → Int64) (a z : Nat) (s : Nat → Int32) (t : Nat) : ms_rd nu a z s t ≤ z := by have := ff_le (ms_rdP nu a s t) z 0; unfold ms_rd; omega
def ms_rdZ (s : Nat → Int32) (t u p : Nat) : Nat → Int32 := upd (upd s (2 + 10 * t) (nI (p / 6))) (2 + 10 * u) (nI (p % 6))
def ms_rdS (nu : Nat → Int64) (a z : Nat) (s : Nat → Int32) (t u : Nat) (p : Nat) (q : Nat × (Nat → Int32)) : Nat × (Nat → Int32) := (q.1 + (if z ≤ ms_rd nu a z (ms_rdZ s t u p) t then 1 else 0), ms_gs (ms_rd nu a z (ms_rdZ s t u p) t) (ms_rdZ s t u p) q.2)
theorem rdS_le (nu : Nat → Int64) (a z : Nat) (s : Nat → Int32) (t u : Nat) (ge : Nat → Int32) : ∀ i, (it (ms_rdS nu a z s t u) i (0, ge)).1 ≤ i := by
  intro i
  induction i with
  | zero => exact Nat.le_refl 0
  | succ i ih => rw [it_s, ms_rdS]; dsimp only; split <;> omega
def ms_nlS (s : Nat → Int32) (t n : Nat) : Nat := n + (if s (2 + 10 * t) = 0 then 0 else 1)
def ms_koS (s : Nat → Int32) (t n : Nat) : Nat := n + (if ms_kb s t = 0 then 0 else 1)
theorem nlS_le (s : Nat → Int32) : ∀ i, it (ms_nlS s) i 0 ≤ i := by
  intro i
  induction i with
  | zero => exact Nat.le_refl 0
  | succ i ih => rw [it_s]; unfold ms_nlS at *; split <;> omega
theorem koS_le (s : Nat → Int32) : ∀ i, it (ms_koS s) i 0 ≤ i := by
  intro i
  induction i with
  | zero => exact Nat.le_refl 0
  | succ i ih => rw [it_s]; unfold ms_koS at *; split <;> omega
def ms_stA (stt : Nat → Int32) (k : Nat) (n : Int32) : Int32 := n + stt k
def ms_stO (stt : Nat → Int32) (w k : Nat) (n : Int32) : Int32 := n + (if k = w then stt k else 0)
theorem inR_w : ∀ w, w < 7 → inR (lN w) (-1) 6 = true := by decide +kernel
