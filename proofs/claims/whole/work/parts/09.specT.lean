/-! ===== the reference's text ===== -/
theorem ff_ge (P : Nat → Bool) : ∀ k j, j ≤ ff P k j := by
  intro k
  induction k with
  | zero => intro j; exact Nat.le_refl _
  | succ k ih =>
    intro j
    rw [ff]
    split
    · exact Nat.le_refl _
    · have := ih (j + 1); omega
theorem ff_hit {P : Nat → Bool} {n : Nat} (h : P n = true) : ∀ k j, j ≤ n → n < j + k → ff P k j ≤ n := by
  intro k
  induction k with
  | zero => intro j h1 h2; exact absurd h2 (by omega)
  | succ k ih =>
    intro j h1 h2
    rw [ff]
    split
    · exact h1
    · next h3 =>
      have hne : j ≠ n := fun e => h3 (by rw [e]; exact h)
      exact ih (j + 1) (by omega) (by omega)
abbrev TQ : Type := Nat × Nat × Int32 × Bool
def ms_by (tap : Nat → Int32) (c k : Nat) : Int32 := if c ≤ k then -1 else tap k
theorem by_end (tap : Nat → Int32) (c : Nat) : ms_by tap c c = -1 := by simp [ms_by]
def ms_skP (tap : Nat → Int32) (c : Nat) (j : Nat) : Bool := !(decide (ms_by tap c j = 32))
def ms_fr (tap : Nat → Int32) (c k : Nat) : Nat := ff (ms_skP tap c) (121 - k) k
def ms_to0 (c f : Nat) : Nat := if c ≤ f then f else f + 1
def ms_toP (tap : Nat → Int32) (c : Nat) (w d : Bool) (j : Nat) : Bool := !((w && inI (ms_by tap c j) 97 122) || (d && inI (ms_by tap c j) 48 57))
def ms_to (tap : Nat → Int32) (c f : Nat) : Nat := ff (ms_toP tap c (inI (ms_by tap c f) 97 122) (inI (ms_by tap c f) 48 57)) (121 - ms_to0 c f) (ms_to0 c f)
theorem fr_ge (tap : Nat → Int32) (c k : Nat) : k ≤ ms_fr tap c k := ff_ge _ _ _
theorem fr_le {tap : Nat → Int32} {c k : Nat} (hk : k ≤ c) (hc : c ≤ 120) : ms_fr tap c k ≤ c := ff_hit (by simp [ms_skP, by_end]) _ _ hk (by omega)
theorem to0_ge (c f : Nat) : f ≤ ms_to0 c f := by unfold ms_to0; split <;> omega
theorem to0_le {c f : Nat} (hf : f ≤ c) : ms_to0 c f ≤ c := by unfold ms_to0; split <;> omega
theorem to_ge0 (tap : Nat → Int32) (c f : Nat) : ms_to0 c f ≤ ms_to tap c f := ff_ge _ _ _
theorem to_ge (tap : Nat → Int32) (c f : Nat) : f ≤ ms_to tap c f := Nat.le_trans (to0_ge c f) (to_ge0 tap c f)
theorem in_m1 : inI (-1) 97 122 = false ∧ inI (-1) 48 57 = false := by decide
theorem to_le {tap : Nat → Int32} {c f : Nat} (hf : f ≤ c) (hc : c ≤ 120) : ms_to tap c f ≤ c := ff_hit (by simp [ms_toP, by_end, in_m1]) _ _ (to0_le hf) (by have := to0_le hf; omega)
theorem to_gt {tap : Nat → Int32} {c f : Nat} (hf : f < c) : f + 1 ≤ ms_to tap c f := by
  have h := to_ge0 tap c f
  have e : ms_to0 c f = f + 1 := by unfold ms_to0; rw [if_neg (by omega)]
  omega
def OKq (c : Nat) (q : TQ) : Prop := q.1 ≤ q.2.1 ∧ q.2.1 ≤ c ∧ (q.1 < c → q.1 + 1 ≤ q.2.1)
def ms_tok (tap : Nat → Int32) (c k : Nat) (v : Int32) : TQ := (ms_fr tap c k, ms_to tap c (ms_fr tap c k), v, false)
theorem ok_tok {tap : Nat → Int32} {c k : Nat} {v : Int32} (hk : k ≤ c) (hc : c ≤ 120) : OKq c (ms_tok tap c k v) := ⟨to_ge _ _ _, to_le (fr_le hk hc) hc, fun h => to_gt h⟩
def ms_must (tap : Nat → Int32) (c : Nat) (b : Bool) (q : TQ) : TQ := if q.2.2.2 || !b then (q.1, q.2.1, q.2.2.1, true) else (ms_fr tap c q.2.1, ms_to tap c (ms_fr tap c q.2.1), q.2.2.1, false)
theorem ok_must {tap : Nat → Int32} {c : Nat} {b : Bool} {q : TQ} (h : OKq c q) (hc : c ≤ 120) : OKq c (ms_must tap c b q) := by
  unfold ms_must
  split
  · exact h
  · exact ok_tok (v := q.2.2.1) h.2.1 hc
def ms_wS (tap : Nat → Int32) (f i : Nat) (v : Int64) : Int64 := if v ≤ 36028797018963967 then 32 * v + (tap (f + i) - 96).toInt64 else v
def ms_wv (tap : Nat → Int32) (f t : Nat) : Int64 := it (ms_wS tap f) (t - f) 0
def ms_wd (tap : Nat → Int32) (c : Nat) (q : TQ) : Int64 := if q.2.2.2 || !(inI (ms_by tap c q.1) 97 122) then 0 else ms_wv tap q.1 q.2.1
def ms_nS (tap : Nat → Int32) (f i : Nat) (v : Int32) : Int32 := if v ≤ 999 then 10 * v + tap (f + i) - 48 else v
def ms_nv (tap : Nat → Int32) (c f t : Nat) : Int32 := if inI (ms_by tap c f) 48 57 then it (ms_nS tap f) (t - f) 0 else 0
theorem nv_out {tap : Nat → Int32} {c f t i : Nat} (h : t ≤ f + i) (h2 : i ≤ t - f) (h3 : inI (ms_by tap c f) 48 57 = false → i = 0) : it (ms_nS tap f) i 0 = ms_nv tap c f t := by
  have e : i = t - f := by omega
  cases hD : inI (ms_by tap c f) 48 57 with
  | false => have e0 := h3 hD; rw [ms_nv, hD, e0]; rfl
  | true => rw [ms_nv, hD, e]; rfl
theorem nv_no {tap : Nat → Int32} {c f t i : Nat} (h : inI (ms_by tap c f) 48 57 = false) (h3 : inI (ms_by tap c f) 48 57 = false → i = 0) : it (ms_nS tap f) i 0 = ms_nv tap c f t := by
  have e0 := h3 h; rw [ms_nv, h, e0]; rfl
def ms_nok (tap : Nat → Int32) (c lo hi : Nat) (q : TQ) : Bool := inI (ms_by tap c q.1) 48 57 && inI (ms_nv tap c q.1 q.2.1) (lN lo) (lN hi)
def ms_num (tap : Nat → Int32) (c lo hi : Nat) (q : TQ) : TQ := if q.2.2.2 then q else ms_must tap c (ms_nok tap c lo hi q) (q.1, q.2.1, ms_nv tap c q.1 q.2.1, false)
theorem ok_num {tap : Nat → Int32} {c lo hi : Nat} {q : TQ} (h : OKq c q) (hc : c ≤ 120) : OKq c (ms_num tap c lo hi q) := by
  unfold ms_num
  split
  · exact h
  · exact ok_must (q := (q.1, q.2.1, ms_nv tap c q.1 q.2.1, false)) h hc
theorem inI_nat {x : Int32} {n : Nat} (hn : n < 2 ^ 31) (h : inI x 0 (lN n) = true) : ∃ v, v ≤ n ∧ x = nI v := by
  simp only [inI, inR, Bool.and_eq_true, Bool.not_eq_true', decide_eq_false_iff_not] at h
  have h0 : ¬ x < 0 := fun e => h.1 (by
    rw [Int64.lt_iff_toInt_lt, Int32.toInt_toInt64]
    exact Int32.lt_iff_toInt_lt.mp e)
  obtain ⟨j, hj, rfl⟩ := nI_of h0
  refine ⟨j, ?_, rfl⟩
  rw [nI_l hj] at h
  exact Nat.not_lt.mp (fun e => h.2 ((lN_lt hn hj).mpr e))
theorem must_wr {tap : Nat → Int32} {c : Nat} {b : Bool} {q : TQ} (h : (ms_must tap c b q).2.2.2 = false) : q.2.2.2 = false ∧ b = true ∧ (ms_must tap c b q).2.2.1 = q.2.2.1 := by
  unfold ms_must at h ⊢
  cases hq : q.2.2.2 <;> cases hb : b <;> simp_all
theorem num_val {tap : Nat → Int32} {c hi : Nat} {q : TQ} (hh : hi < 2 ^ 31) (h : (ms_num tap c 0 hi q).2.2.2 = false) : q.2.2.2 = false ∧ ∃ v, v ≤ hi ∧ (ms_num tap c 0 hi q).2.2.1 = nI v := by
  unfold ms_num at h ⊢
  cases hq : q.2.2.2 with
  | true => rw [hq] at h; simp at h; rw [hq] at h; exact absurd h (by decide)
  | false =>
    rw [hq] at h
    simp only [Bool.false_eq_true, if_false] at h ⊢
    obtain ⟨-, h2, h3⟩ := must_wr h
    refine ⟨by trivial, ?_⟩
    rw [h3]
    unfold ms_nok at h2
    rw [Bool.and_eq_true] at h2
    exact inI_nat hh h2.2
-- a tree in the text
def ms_t2 (tap : Nat → Int32) (c : Nat) (q : TQ) : TQ := ms_must tap c (decide (ms_wd tap c (ms_must tap c true q) = 52)) (ms_must tap c true q)
def ms_t3 (tap : Nat → Int32) (c : Nat) (q : TQ) : TQ := ms_num tap c 0 5 (ms_t2 tap c q)
def ms_t4 (tap : Nat → Int32) (c : Nat) (q : TQ) : TQ := ms_num tap c 0 1 (ms_t3 tap c q)
def ms_tx (tap : Nat → Int32) (c : Nat) (q : TQ) : Nat := (2 * (ms_t3 tap c q).2.2.1 + (ms_t4 tap c q).2.2.1).toNatClampNeg
def ms_t6 (tap : Nat → Int32) (c : Nat) (q : TQ) : TQ := ms_num tap c 0 999 (ms_must tap c true (ms_t4 tap c q))
theorem tx_ok {tap : Nat → Int32} {c : Nat} {q : TQ} (h : (ms_t4 tap c q).2.2.2 = false) : 2 * (ms_t3 tap c q).2.2.1 + (ms_t4 tap c q).2.2.1 = nI (ms_tx tap c q) ∧ ms_tx tap c q < 12 := by
  obtain ⟨h1, b, hb, eb⟩ := num_val (by omega) h
  obtain ⟨-, a, ha, ea⟩ := num_val (by omega) h1
  have ea' : (ms_t3 tap c q).2.2.1 = nI a := ea
  have eb' : (ms_t4 tap c q).2.2.1 = nI b := eb
  have e : 2 * (ms_t3 tap c q).2.2.1 + (ms_t4 tap c q).2.2.1 = nI (2 * a + b) := by
    rw [ea', eb']
    rw [← nI_add, ← pk_mul]
    rfl
  have e2 : ms_tx tap c q = 2 * a + b := by
    rw [ms_tx, e]
    exact nI_clamp (by omega)
  rw [e2]
  exact ⟨e, by omega⟩
def ms_ti (tap : Nat → Int32) (c : Nat) (s : Nat → Int32) (kd : Int32) (q : TQ) : (Nat → Int32) × TQ := if (ms_t4 tap c q).2.2.2 then (s, ms_t4 tap c q) else if ms_wd tap c (ms_t4 tap c q) = 1253 then (upd (ms_sets s (ms_tx tap c q) kd 0) (2 + 10 * ms_tx tap c q + 1) (if (ms_t6 tap c q).2.2.2 then 0 else (ms_t6 tap c q).2.2.1), ms_t6 tap c q) else (ms_sets s (ms_tx tap c q) kd 0, ms_t4 tap c q)
-- a word in the text
def ms_w2 (tap : Nat → Int32) (c : Nat) (q : TQ) : TQ := ms_num tap c 0 7 (ms_must tap c true q)
def ms_w3 (tap : Nat → Int32) (c : Nat) (q : TQ) : TQ := ms_num tap c 0 1 (ms_w2 tap c q)
def ms_wi (tap : Nat → Int32) (c : Nat) (s : Nat → Int32) (q : TQ) : (Nat → Int32) × TQ := if (ms_w3 tap c q).2.2.2 then (s, ms_w3 tap c q) else ((ms_ln s (ms_w3 tap c q).2.2.1.toNatClampNeg (2 ^ (ms_w2 tap c q).2.2.1.toNatClampNeg)).1, ms_w3 tap c q)
theorem wi_ok {tap : Nat → Int32} {c : Nat} {q : TQ} (h : (ms_w3 tap c q).2.2.2 = false) : (ms_w3 tap c q).2.2.1 = nI (ms_w3 tap c q).2.2.1.toNatClampNeg ∧ (ms_w3 tap c q).2.2.1.toNatClampNeg ≤ 1 ∧ (ms_w2 tap c q).2.2.1 = nI (ms_w2 tap c q).2.2.1.toNatClampNeg ∧ (ms_w2 tap c q).2.2.1.toNatClampNeg ≤ 7 := by
  obtain ⟨h1, b, hb, eb⟩ := num_val (by omega) h
  obtain ⟨-, a, ha, ea⟩ := num_val (by omega) h1
  have ea' : (ms_w2 tap c q).2.2.1 = nI a := ea
  have eb' : (ms_w3 tap c q).2.2.1 = nI b := eb
  rw [ea', eb', nI_clamp (by omega), nI_clamp (by omega)]
  exact ⟨rfl, hb, rfl, ha⟩
def ms_kd (w : Int64) : Int32 := if w = 402853 then 0 else if w = 5517 then 1 else if w = 20451829191 then 2 else if w = 20600240 then 3 else if w = 15403 then 4 else if w = 7931092 then 5 else -1
def ms_m2 (tap : Nat → Int32) (c : Nat) (q : TQ) : TQ := ms_num tap c 0 5 (ms_must tap c (decide (ms_wd tap c q = 431284) || decide (ms_wd tap c q = 3764)) q)
theorem m2_ok {tap : Nat → Int32} {c : Nat} {q : TQ} (h : (ms_m2 tap c q).2.2.2 = false) : (ms_m2 tap c q).2.2.1 = nI (ms_m2 tap c q).2.2.1.toNatClampNeg ∧ (ms_m2 tap c q).2.2.1.toNatClampNeg ≤ 5 := by
  obtain ⟨h1, b, hb, eb⟩ := num_val (by omega) h
  have eb' : (ms_m2 tap c q).2.2.1 = nI b := eb
  rw [eb', nI_clamp (by omega)]
  exact ⟨rfl, hb⟩
def ms_mi (tap : Nat → Int32) (c : Nat) (s : Nat → Int32) (q : TQ) : (Nat → Int32) × TQ := if (ms_m2 tap c q).2.2.2 then (s, ms_m2 tap c q) else (ms_meets s (ms_m2 tap c q).2.2.1.toNatClampNeg (decide (ms_wd tap c q = 431284)), ms_m2 tap c q)
def ms_item (tap : Nat → Int32) (c : Nat) (s : Nat → Int32) (q : TQ) : (Nat → Int32) × TQ := if ms_kd (ms_wd tap c q) < 0 then (if ms_wd tap c q = 769604 then ms_wi tap c s q else ms_mi tap c s q) else ms_ti tap c s (ms_kd (ms_wd tap c q)) q
theorem ok_t2 {tap : Nat → Int32} {c : Nat} {q : TQ} (h : OKq c q) (hc : c ≤ 120) : OKq c (ms_t2 tap c q) := ok_must (ok_must h hc) hc
theorem ok_t3 {tap : Nat → Int32} {c : Nat} {q : TQ} (h : OKq c q) (hc : c ≤ 120) : OKq c (ms_t3 tap c q) := ok_num (ok_t2 h hc) hc
theorem ok_t4 {tap : Nat → Int32} {c : Nat} {q : TQ} (h : OKq c q) (hc : c ≤ 120) : OKq c (ms_t4 tap c q) := ok_num (ok_t3 h hc) hc
theorem ok_t6 {tap : Nat → Int32} {c : Nat} {q : TQ} (h : OKq c q) (hc : c ≤ 120) : OKq c (ms_t6 tap c q) := ok_num (ok_must (ok_t4 h hc) hc) hc
theorem ok_w2 {tap : Nat → Int32} {c : Nat} {q : TQ} (h : OKq c q) (hc : c ≤ 120) : OKq c (ms_w2 tap c q) := ok_num (ok_must h hc) hc
theorem ok_w3 {tap : Nat → Int32} {c : Nat} {q : TQ} (h : OKq c q) (hc : c ≤ 120) : OKq c (ms_w3 tap c q) := ok_num (ok_w2 h hc) hc
theorem ok_m2 {tap : Nat → Int32} {c : Nat} {q : TQ} (h : OKq c q) (hc : c ≤ 120) : OKq c (ms_m2 tap c q) := ok_num (ok_must h hc) hc
theorem ok_item {tap : Nat → Int32} {c : Nat} {s : Nat → Int32} {q : TQ} (h : OKq c q) (hc : c ≤ 120) : OKq c (ms_item tap c s q).2 := by
  unfold ms_item
  split
  · split
    · unfold ms_wi
      split <;> exact ok_w3 h hc
    · unfold ms_mi
      split <;> exact ok_m2 h hc
  · unfold ms_ti
    split
    · exact ok_t4 h hc
    · split
      · exact ok_t6 h hc
      · exact ok_t4 h hc
-- the place never goes back
theorem must_ge {tap : Nat → Int32} {c : Nat} {b : Bool} {q : TQ} (h : OKq c q) : q.1 ≤ (ms_must tap c b q).1 := by
  unfold ms_must
  split
  · exact Nat.le_refl _
  · exact Nat.le_trans h.1 (fr_ge _ _ _)
theorem num_ge {tap : Nat → Int32} {c lo hi : Nat} {q : TQ} (h : OKq c q) : q.1 ≤ (ms_num tap c lo hi q).1 := by
  unfold ms_num
  split
  · exact Nat.le_refl _
  · exact must_ge (q := (q.1, q.2.1, ms_nv tap c q.1 q.2.1, false)) h
theorem item_ge {tap : Nat → Int32} {c : Nat} {s : Nat → Int32} {q : TQ} (h : OKq c q) (hc : c ≤ 120) : q.1 ≤ (ms_item tap c s q).2.1 := by
  have m1 : q.1 ≤ (ms_must tap c true q).1 := must_ge h
  have m2 : (ms_must tap c true q).1 ≤ (ms_t2 tap c q).1 := must_ge (ok_must h hc)
  have m3 : (ms_t2 tap c q).1 ≤ (ms_t3 tap c q).1 := num_ge (ok_t2 h hc)
  have m4 : (ms_t3 tap c q).1 ≤ (ms_t4 tap c q).1 := num_ge (ok_t3 h hc)
  have m5 : (ms_t4 tap c q).1 ≤ (ms_must tap c true (ms_t4 tap c q)).1 := must_ge (ok_t4 h hc)
  have m6 : (ms_must tap c true (ms_t4 tap c q)).1 ≤ (ms_t6 tap c q).1 := num_ge (ok_must (ok_t4 h hc) hc)
  have w2 : (ms_must tap c true q).1 ≤ (ms_w2 tap c q).1 := num_ge (ok_must h hc)
  have w3 : (ms_w2 tap c q).1 ≤ (ms_w3 tap c q).1 := num_ge (ok_w2 h hc)
  have n1 : q.1 ≤ (ms_m2 tap c q).1 := Nat.le_trans (must_ge h) (num_ge (ok_must h hc))
  unfold ms_item
  split
  · split
    · unfold ms_wi
      split <;> dsimp only <;> omega
    · unfold ms_mi
      split <;> dsimp only <;> omega
  · unfold ms_ti
    split
    · dsimp only; omega
    · split <;> dsimp only <;> omega
/-- items behind the first; what is left of the fuel tells nothing -/
def ms_avL (tap : Nat → Int32) (c : Nat) : Nat → (Nat → Int32) → TQ → Nat → (Nat → Int32) × TQ × Nat
  | 0, s, q, n => (s, q, n)
  | k + 1, s, q, n => if !(q.2.2.2) && decide (ms_by tap c q.1 = 59) then ms_avL tap c k (ms_item tap c s (ms_must tap c true q)).1 (ms_item tap c s (ms_must tap c true q)).2 (n + 1) else (s, q, n)
theorem avL_out {tap : Nat → Int32} {c k : Nat} {s : Nat → Int32} {q : TQ} {n : Nat} (h : (!(q.2.2.2) && decide (ms_by tap c q.1 = 59)) = false) : ms_avL tap c k s q n = (s, q, n) := by
  cases k with
  | zero => rfl
  | succ k => rw [ms_avL, h]; rfl
theorem avL_in {tap : Nat → Int32} {c k : Nat} {s : Nat → Int32} {q : TQ} {n : Nat} (hk : 0 < k) (h : (!(q.2.2.2) && decide (ms_by tap c q.1 = 59)) = true) : ms_avL tap c k s q n = ms_avL tap c (k - 1) (ms_item tap c s (ms_must tap c true q)).1 (ms_item tap c s (ms_must tap c true q)).2 (n + 1) := by
  obtain ⟨j, rfl⟩ : ∃ j, k = j + 1 := ⟨k - 1, by omega⟩
  rw [ms_avL, h]; rfl
theorem av_step {tap : Nat → Int32} {c : Nat} {q : TQ} {s : Nat → Int32} (h : OKq c q) (hc : c ≤ 120) (hw : q.2.2.2 = false) (hb : ms_by tap c q.1 = 59) : q.1 + 1 ≤ (ms_item tap c s (ms_must tap c true q)).2.1 := by
  have h1 : (ms_must tap c true q).1 ≤ (ms_item tap c s (ms_must tap c true q)).2.1 := item_ge (ok_must h hc) hc
  have h2 : q.2.1 ≤ (ms_must tap c true q).1 := by
    unfold ms_must
    rw [hw]
    exact fr_ge _ _ _
  have h3 : q.1 < c := by
    rcases Nat.lt_or_ge q.1 c with h3 | h3
    · exact h3
    · rw [ms_by, if_pos h3] at hb
      exact absurd hb (by decide)
  exact Nat.le_trans (Nat.le_trans (h.2.2 h3) h2) h1
def ms_av (tap : Nat → Int32) (c : Nat) (s : Nat → Int32) (vl : Int32) : (Nat → Int32) × TQ × Nat := ms_avL tap c 121 (ms_item tap c s (ms_tok tap c 0 vl)).1 (ms_item tap c s (ms_tok tap c 0 vl)).2 1
def avW (c : Nat) (rr : (Nat → Int32) × TQ × Nat) : Bool := rr.2.1.2.2.2 || !(decide (c ≤ rr.2.1.1))
theorem avL_ok {tap : Nat → Int32} {c : Nat} (hc : c ≤ 120) : ∀ (k : Nat) (s : Nat → Int32) (q : TQ) (n : Nat), OKq c q → OKq c (ms_avL tap c k s q n).2.1 := by
  intro k
  induction k with
  | zero => intro s q n h; exact h
  | succ k ih =>
    intro s q n h
    rw [ms_avL]
    split
    · exact ih _ _ _ (ok_item (ok_must h hc) hc)
    · exact h
theorem av_ok {tap : Nat → Int32} {c : Nat} {s : Nat → Int32} {vl : Int32} (hc : c ≤ 120) : OKq c (ms_av tap c s vl).2.1 := avL_ok hc _ _ _ _ (ok_item (ok_tok (by omega) hc) hc)
