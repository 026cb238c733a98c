/-! ===== the class's text: (start, end, type, value) ===== -/
abbrev XQ : Type := Nat × Nat × Nat × Int32
def cL (x : Int32) : Bool := !(decide (x < 97)) && !(decide (122 < x))
def cD (x : Int32) : Bool := !(decide (x < 48)) && !(decide (57 < x))
def x_stP (b : Nat → Int32) (c j : Nat) : Bool := decide (c ≤ j) || !(decide (b j = 32))
def x_st (b : Nat → Int32) (c k : Nat) : Nat := ff (x_stP b c) (121 - k) k
def x_eLP (b : Nat → Int32) (c j : Nat) : Bool := decide (c ≤ j) || !(cL (b j))
def x_eL (b : Nat → Int32) (c s : Nat) : Nat := ff (x_eLP b c) (121 - s) s
def x_eDP (b : Nat → Int32) (c j : Nat) : Bool := decide (c ≤ j) || !(cD (b j))
def x_eD (b : Nat → Int32) (c s : Nat) : Nat := ff (x_eDP b c) (121 - s) s
def x_nS (b : Nat → Int32) (s i : Nat) (v : Int32) : Int32 := if 1000 < 10 * v + b (s + i) - 48 then 1000 else 10 * v + b (s + i) - 48
def x_nv (b : Nat → Int32) (c s : Nat) : Int32 := it (x_nS b s) (x_eD b c s - s) 0
def x_adv (b : Nat → Int32) (c : Nat) (q : XQ) : XQ :=
  if c ≤ x_st b c q.2.1 then (x_st b c q.2.1, x_st b c q.2.1, 0, q.2.2.2)
  else if cL (b (x_st b c q.2.1)) then (x_st b c q.2.1, x_eL b c (x_st b c q.2.1), 1, q.2.2.2)
  else if cD (b (x_st b c q.2.1)) then (x_st b c q.2.1, x_eD b c (x_st b c q.2.1), 2, x_nv b c (x_st b c q.2.1))
  else (x_st b c q.2.1, x_st b c q.2.1 + 1, if b (x_st b c q.2.1) = 59 then 3 else 4, q.2.2.2)
theorem xst_ge (b : Nat → Int32) (c k : Nat) : k ≤ x_st b c k := ff_ge _ _ _
theorem xst_le {b : Nat → Int32} {c k : Nat} (hk : k ≤ c) (hc : c ≤ 120) : x_st b c k ≤ c := ff_hit (by simp [x_stP]) _ _ hk (by omega)
theorem xeL_ge (b : Nat → Int32) (c k : Nat) : k ≤ x_eL b c k := ff_ge _ _ _
theorem xeL_le {b : Nat → Int32} {c k : Nat} (hk : k ≤ c) (hc : c ≤ 120) : x_eL b c k ≤ c := ff_hit (by simp [x_eLP]) _ _ hk (by omega)
theorem xeD_ge (b : Nat → Int32) (c k : Nat) : k ≤ x_eD b c k := ff_ge _ _ _
theorem xeD_le {b : Nat → Int32} {c k : Nat} (hk : k ≤ c) (hc : c ≤ 120) : x_eD b c k ≤ c := ff_hit (by simp [x_eDP]) _ _ hk (by omega)
/-- below the first place with P there is none -/
theorem ff_no {P : Nat → Bool} : ∀ k j n, j ≤ n → n < ff P k j → P n = false := by
  intro k
  induction k with
  | zero => intro j n h1 h2; rw [ff] at h2; exact absurd h2 (by omega)
  | succ k ih =>
    intro j n h1 h2
    rw [ff] at h2
    split at h2
    · exact absurd h2 (by omega)
    · next h3 =>
      by_cases e : n = j
      · subst e; simpa using h3
      · exact ih (j + 1) n (by omega) h2
theorem cD_nat {x : Int32} (h : cD x = true) : ∃ d, d ≤ 9 ∧ x = nI (48 + d) := by
  simp only [cD, Bool.and_eq_true, Bool.not_eq_true', decide_eq_false_iff_not] at h
  obtain ⟨h1, h2⟩ := h
  have h0 : ¬ x < 0 := fun e => h1 (Int32.lt_trans e (by decide))
  obtain ⟨j, hj, rfl⟩ := nI_of h0
  have a1 : 48 ≤ j := Nat.not_lt.mp (fun e => h1 (nI_lt (b := 48) e (by omega)))
  have a2 : j ≤ 57 := Nat.not_lt.mp (fun e => h2 (nI_lt (a := 57) e hj))
  exact ⟨j - 48, by omega, by congr 1; omega⟩
theorem nS_nat {v d : Nat} (hv : v ≤ 1000) (hd : d ≤ 9) : ∃ w, w ≤ 1000 ∧ (if (1000 : Int32) < 10 * nI v + nI (48 + d) - 48 then (1000 : Int32) else 10 * nI v + nI (48 + d) - 48) = nI w := by
  have e : 10 * nI v + nI (48 + d) - 48 = nI (10 * v + d) := by
    have e1 : (10 : Int32) * nI v = nI (10 * v) := pk_mul 10 v
    rw [e1, nI_add]
    have e2 := pk_sub (a := 10 * v + (48 + d)) (b := 48) (by omega)
    rw [show (48 : Int32) = nI 48 from rfl, e2]
    congr 1; omega
  rw [e]
  by_cases h : (1000 : Int32) < nI (10 * v + d)
  · rw [if_pos h]; exact ⟨1000, by omega, rfl⟩
  · rw [if_neg h]
    exact ⟨10 * v + d, Nat.not_lt.mp (fun q => h (nI_lt (a := 1000) q (by omega))), rfl⟩
theorem xnv_nat (b : Nat → Int32) (c s : Nat) : ∀ i, i ≤ x_eD b c s - s → ∃ v, v ≤ 1000 ∧ it (x_nS b s) i 0 = nI v := by
  intro i
  induction i with
  | zero => intro _; exact ⟨0, by omega, rfl⟩
  | succ i ih =>
    intro h
    obtain ⟨v, hv, ev⟩ := ih (by omega)
    have hn : x_eDP b c (s + i) = false := ff_no _ _ _ (by omega) (show s + i < x_eD b c s by omega)
    simp only [x_eDP, Bool.or_eq_false_iff, Bool.not_eq_false'] at hn
    obtain ⟨d, hd, ed⟩ := cD_nat hn.2
    obtain ⟨w, hw, ew⟩ := nS_nat hv hd
    exact ⟨w, hw, by rw [it_s, ev, x_nS, ed]; exact ew⟩
def XOK (c : Nat) (q : XQ) : Prop := q.1 ≤ q.2.1 ∧ q.2.1 ≤ c ∧ (q.2.2.1 = 2 → ∃ v, v ≤ 1000 ∧ q.2.2.2 = nI v) ∧ q.2.2.1 < 5
theorem ok_adv {b : Nat → Int32} {c : Nat} {q : XQ} (h : q.2.1 ≤ c) (hc : c ≤ 120) : XOK c (x_adv b c q) := by
  have h1 := xst_le (b := b) h hc
  unfold x_adv
  split
  · exact ⟨Nat.le_refl _, h1, fun e => by simp at e, by simp⟩
  · split
    · exact ⟨xeL_ge _ _ _, xeL_le h1 hc, fun e => by simp at e, by simp⟩
    · split
      · exact ⟨xeD_ge _ _ _, xeD_le h1 hc, fun _ => xnv_nat b c _ _ (Nat.le_refl _), by simp⟩
      · refine ⟨Nat.le_succ _, by dsimp only; omega, fun e => ?_, ?_⟩
        · dsimp only at e; split at e <;> simp at e
        · dsimp only; split <;> omega
-- taking words and numbers
def x_wP (b : Nat → Int32) (s i j : Nat) : Bool := !(decide (b (s + j) = jch i j))
def x_wOK (b : Nat → Int32) (i : Nat) (q : XQ) : Bool := decide (q.2.2.1 = 1) && (decide (q.2.1 - q.1 = jsL.getD i 0) && decide (jsL.getD i 0 ≤ ff (x_wP b q.1 i) (jsL.getD i 0) 0))
def x_tw (b : Nat → Int32) (c i : Nat) (q : XQ) : XQ := if x_wOK b i q then x_adv b c q else q
theorem ok_tw {b : Nat → Int32} {c i : Nat} {q : XQ} (h : XOK c q) (hc : c ≤ 120) : XOK c (x_tw b c i q) := by
  unfold x_tw
  split
  · exact ok_adv h.2.1 hc
  · exact h
def x_nOK (mx : Nat) (q : XQ) : Bool := decide (q.2.2.1 = 2) && decide (q.2.2.2 ≤ nI mx)
def x_nr (mx : Nat) (q : XQ) : Int32 := if x_nOK mx q then q.2.2.2 else -1
def x_tn (b : Nat → Int32) (c mx : Nat) (q : XQ) : XQ := if x_nOK mx q then x_adv b c q else q
theorem ok_tn {b : Nat → Int32} {c mx : Nat} {q : XQ} (h : XOK c q) (hc : c ≤ 120) : XOK c (x_tn b c mx q) := by
  unfold x_tn
  split
  · exact ok_adv h.2.1 hc
  · exact h
theorem nr_nat {c mx : Nat} {q : XQ} (hm : mx < 2000) (h : XOK c q) (h0 : 0 ≤ x_nr mx q) : x_nr mx q = nI (x_nr mx q).toNatClampNeg ∧ (x_nr mx q).toNatClampNeg ≤ mx := by
  unfold x_nr at h0 ⊢
  cases e : x_nOK mx q with
  | false =>
    rw [e] at h0
    simp only [Bool.false_eq_true, if_false] at h0
    exact absurd h0 (by decide)
  | true =>
    simp only [if_true]
    simp only [x_nOK, Bool.and_eq_true, decide_eq_true_eq] at e
    obtain ⟨v, hv, ev⟩ := h.2.2.1 e.1
    have e2 := e.2
    rw [ev] at e2 ⊢
    rw [nI_clamp (by omega)]
    exact ⟨rfl, (nI_leI (by omega) (by omega)).mp e2⟩
