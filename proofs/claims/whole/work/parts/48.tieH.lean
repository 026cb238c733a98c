/-! ===== the text, tied: bytes and tokens ===== -/
theorem by_all : ∀ k, k < 256 → ((nI k = 32) ↔ ((nI k).toInt8.toInt32 = 32)) ∧ ((nI k = 59) ↔ ((nI k).toInt8.toInt32 = 59)) ∧ inI (nI k) 97 122 = cL (nI k).toInt8.toInt32 ∧ inI (nI k) 48 57 = cD (nI k).toInt8.toInt32 ∧ (cL (nI k).toInt8.toInt32 = true → cD (nI k).toInt8.toInt32 = false ∧ (nI k).toInt8.toInt32 = nI k ∧ 97 ≤ k ∧ k ≤ 122) ∧ (cD (nI k).toInt8.toInt32 = true → (nI k).toInt8.toInt32 = nI k ∧ 48 ≤ k ∧ k ≤ 57) := by decide +kernel
def TP (b tap : Nat → Int32) (c : Nat) : Prop := ∀ j, j < c → BY (b j) (tap j)
section TH
variable {b tap : Nat → Int32} {c : Nat}
theorem b_32 (h : TP b tap c) (j : Nat) : decide (ms_by tap c j = 32) = (decide (j < c) && decide (b j = 32)) := by
  unfold ms_by
  by_cases hj : c ≤ j
  · rw [if_pos hj, decide_eq_false (by decide), decide_eq_false (show ¬ j < c by omega), Bool.false_and]
  · obtain ⟨k, hk, e1, e2⟩ := h j (by omega)
    rw [if_neg hj, decide_eq_true (show j < c by omega), Bool.true_and, e1, e2]
    exact decide_eq_decide.mpr (by_all k hk).1
theorem b_59 (h : TP b tap c) (j : Nat) : decide (ms_by tap c j = 59) = (decide (j < c) && decide (b j = 59)) := by
  unfold ms_by
  by_cases hj : c ≤ j
  · rw [if_pos hj, decide_eq_false (by decide), decide_eq_false (show ¬ j < c by omega), Bool.false_and]
  · obtain ⟨k, hk, e1, e2⟩ := h j (by omega)
    rw [if_neg hj, decide_eq_true (show j < c by omega), Bool.true_and, e1, e2]
    exact decide_eq_decide.mpr (by_all k hk).2.1
theorem b_L (h : TP b tap c) (j : Nat) : inI (ms_by tap c j) 97 122 = (decide (j < c) && cL (b j)) := by
  unfold ms_by
  by_cases hj : c ≤ j
  · rw [if_pos hj, in_m1.1, decide_eq_false (show ¬ j < c by omega), Bool.false_and]
  · obtain ⟨k, hk, e1, e2⟩ := h j (by omega)
    rw [if_neg hj, decide_eq_true (show j < c by omega), Bool.true_and, e1, e2]
    exact (by_all k hk).2.2.1
theorem b_D (h : TP b tap c) (j : Nat) : inI (ms_by tap c j) 48 57 = (decide (j < c) && cD (b j)) := by
  unfold ms_by
  by_cases hj : c ≤ j
  · rw [if_pos hj, in_m1.2, decide_eq_false (show ¬ j < c by omega), Bool.false_and]
  · obtain ⟨k, hk, e1, e2⟩ := h j (by omega)
    rw [if_neg hj, decide_eq_true (show j < c by omega), Bool.true_and, e1, e2]
    exact (by_all k hk).2.2.2.1
theorem b_LD (h : TP b tap c) {j : Nat} (hj : j < c) (hL : cL (b j) = true) : cD (b j) = false ∧ ∃ k, 97 ≤ k ∧ k ≤ 122 ∧ b j = nI k ∧ tap j = nI k := by
  obtain ⟨k, hk, e1, e2⟩ := h j hj
  rw [e2] at hL ⊢
  have := (by_all k hk).2.2.2.2.1 hL
  exact ⟨this.1, k, this.2.2.1, this.2.2.2, this.2.1, e1⟩
theorem b_DD (h : TP b tap c) {j : Nat} (hj : j < c) (hD : cD (b j) = true) : ∃ k, 48 ≤ k ∧ k ≤ 57 ∧ b j = nI k ∧ tap j = nI k := by
  obtain ⟨k, hk, e1, e2⟩ := h j hj
  rw [e2] at hD ⊢
  have := (by_all k hk).2.2.2.2.2 hD
  exact ⟨k, this.2.1, this.2.2, this.1, e1⟩
theorem fr_tie (h : TP b tap c) (k : Nat) : ms_fr tap c k = x_st b c k := by
  unfold ms_fr x_st
  refine ff_cong _ _ (fun j _ _ => ?_)
  unfold ms_skP x_stP
  rw [b_32 h j]
  by_cases hj : j < c
  · simp [hj, Nat.not_le.mpr hj]
  · simp [hj, Nat.not_lt.mp hj]
theorem to_end (hc : c ≤ 120) {f : Nat} (hf : f = c) : ms_to tap c f = f := by
  subst hf
  unfold ms_to
  have e0 : ms_to0 f f = f := by unfold ms_to0; rw [if_pos (Nat.le_refl f)]
  rw [e0]
  refine ff_t (N := 121) (by omega) ?_
  unfold ms_toP
  rw [by_end]
  simp [in_m1]
theorem to_L (h : TP b tap c) (hc : c ≤ 120) {f : Nat} (hf : f < c) (hL : cL (b f) = true) : ms_to tap c f = x_eL b c f := by
  have e0 : ms_to0 c f = f + 1 := by unfold ms_to0; rw [if_neg (by omega)]
  have hD := (b_LD h hf hL).1
  unfold ms_to x_eL
  rw [e0, b_L h, b_D h, hL, hD, decide_eq_true hf]
  have e1 : ff (x_eLP b c) (121 - f) f = ff (x_eLP b c) (121 - (f + 1)) (f + 1) := ff_f (by omega) (by simp [x_eLP, hL]; omega)
  rw [e1]
  refine ff_cong _ _ (fun j _ _ => ?_)
  unfold ms_toP x_eLP
  rw [b_L h, b_D h]
  by_cases hj : j < c
  · simp [hj, Nat.not_le.mpr hj]
  · simp [hj, Nat.not_lt.mp hj]
theorem to_D (h : TP b tap c) (hc : c ≤ 120) {f : Nat} (hf : f < c) (hD : cD (b f) = true) (hL : cL (b f) = false) : ms_to tap c f = x_eD b c f := by
  have e0 : ms_to0 c f = f + 1 := by unfold ms_to0; rw [if_neg (by omega)]
  unfold ms_to x_eD
  rw [e0, b_L h, b_D h, hL, hD, decide_eq_true hf]
  have e1 : ff (x_eDP b c) (121 - f) f = ff (x_eDP b c) (121 - (f + 1)) (f + 1) := ff_f (by omega) (by simp [x_eDP, hD]; omega)
  rw [e1]
  refine ff_cong _ _ (fun j _ _ => ?_)
  unfold ms_toP x_eDP
  rw [b_L h, b_D h]
  by_cases hj : j < c
  · simp [hj, Nat.not_le.mpr hj]
  · simp [hj, Nat.not_lt.mp hj]
theorem to_O (h : TP b tap c) (hc : c ≤ 120) {f : Nat} (hf : f < c) (hD : cD (b f) = false) (hL : cL (b f) = false) : ms_to tap c f = f + 1 := by
  have e0 : ms_to0 c f = f + 1 := by unfold ms_to0; rw [if_neg (by omega)]
  unfold ms_to
  rw [e0, b_L h, b_D h, hL, hD]
  refine ff_t (N := 121) (by omega) ?_
  unfold ms_toP
  simp
/-- class and reference look at the same token -/
def PR (b tap : Nat → Int32) (c : Nat) (q : XQ) (p : TQ) : Prop := p.2.2.2 = false ∧ p.1 = q.1 ∧ p.2.1 = q.2.1 ∧ OKq c p ∧ ((c ≤ q.1 ∧ q.2.2.1 = 0) ∨ (q.1 < c ∧ cL (b q.1) = true ∧ q.2.2.1 = 1 ∧ q.2.1 = x_eL b c q.1) ∨ (q.1 < c ∧ cL (b q.1) = false ∧ cD (b q.1) = true ∧ q.2.2.1 = 2 ∧ q.2.1 = x_eD b c q.1 ∧ q.2.2.2 = x_nv b c q.1) ∨ (q.1 < c ∧ cL (b q.1) = false ∧ cD (b q.1) = false ∧ q.2.2.1 = if b q.1 = 59 then 3 else 4))
theorem adv_tie (h : TP b tap c) (hc : c ≤ 120) {q : XQ} {k : Nat} {v : Int32} (hk : k ≤ c) (hq : q.2.1 = k) : PR b tap c (x_adv b c q) (ms_tok tap c k v) := by
  have hs := xst_le (b := b) hk hc
  have ho : OKq c (ms_tok tap c k v) := ok_tok hk hc
  unfold ms_tok at ho ⊢
  rw [fr_tie h k] at ho ⊢
  unfold x_adv
  rw [hq]
  generalize x_st b c k = f at hs ho ⊢
  by_cases h1 : c ≤ f
  · rw [if_pos h1]
    exact ⟨rfl, rfl, to_end hc (by omega), ho, Or.inl ⟨h1, rfl⟩⟩
  · rw [if_neg h1]
    have hf : f < c := by omega
    by_cases hL : cL (b f) = true
    · rw [if_pos hL]
      exact ⟨rfl, rfl, to_L h hc hf hL, ho, Or.inr (Or.inl ⟨hf, hL, rfl, rfl⟩)⟩
    · rw [if_neg hL]
      have hL2 : cL (b f) = false := by simpa using hL
      by_cases hD : cD (b f) = true
      · rw [if_pos hD]
        exact ⟨rfl, rfl, to_D h hc hf hD hL2, ho, Or.inr (Or.inr (Or.inl ⟨hf, hL2, hD, rfl, rfl, rfl⟩))⟩
      · rw [if_neg hD]
        have hD2 : cD (b f) = false := by simpa using hD
        exact ⟨rfl, rfl, to_O h hc hf hD2 hL2, ho, Or.inr (Or.inr (Or.inr ⟨hf, hL2, hD2, rfl⟩))⟩
theorem PR.must (h : TP b tap c) (hc : c ≤ 120) {q : XQ} {p : TQ} (hp : PR b tap c q p) : PR b tap c (x_adv b c q) (ms_must tap c true p) := by
  have e : ms_must tap c true p = ms_tok tap c p.2.1 p.2.2.1 := by
    unfold ms_must ms_tok
    rw [hp.1]
    rfl
  rw [e]
  exact adv_tie h hc hp.2.2.2.1.2.1 hp.2.2.1.symm
theorem must_f {q : XQ} {p : TQ} (hp : PR b tap c q p) : (ms_must tap c false p).2.2.2 = true ∧ (ms_must tap c false p).1 = q.1 := by
  unfold ms_must
  rw [Bool.not_false, Bool.or_true, if_pos rfl]
  exact ⟨rfl, hp.2.1⟩
theorem must_w {x : Bool} {p : TQ} (hp : p.2.2.2 = true) : (ms_must tap c x p).2.2.2 = true ∧ (ms_must tap c x p).1 = p.1 := by
  unfold ms_must
  rw [hp, Bool.true_or, if_pos rfl]
  exact ⟨rfl, rfl⟩
theorem num_w {lo hi : Nat} {p : TQ} (hp : p.2.2.2 = true) : ms_num tap c lo hi p = p := by
  unfold ms_num
  rw [hp, if_pos rfl]
/-! ===== words ===== -/
def wM : Nat := 36028797018963967
def wN (d : Nat → Nat) : Nat → Nat
  | 0 => 0
  | n + 1 => if wN d n ≤ wM then 32 * wN d n + d n else wN d n
theorem wN_s (d : Nat → Nat) (n : Nat) : wN d (n + 1) = if wN d n ≤ wM then 32 * wN d n + d n else wN d n := rfl
theorem wN_le {d : Nat → Nat} {L : Nat} (h : ∀ j, j < L → 1 ≤ d j ∧ d j ≤ 26) : ∀ n, n ≤ L → wN d n ≤ 32 * wM + 26 := by
  intro n
  induction n with
  | zero => intro _; exact Nat.zero_le _
  | succ n ih =>
    intro hn
    have h1 := ih (by omega)
    have h2 := h n (by omega)
    rw [wN_s]
    split <;> omega
theorem wN_cg {d e : Nat → Nat} : ∀ n, (∀ j, j < n → d j = e j) → wN d n = wN e n := by
  intro n
  induction n with
  | zero => intro _; rfl
  | succ n ih => intro h; rw [wN_s, wN_s, ih (fun j hj => h j (by omega)), h n (by omega)]
theorem wN_inj {d e : Nat → Nat} : ∀ L n, (∀ j, j < n → 1 ≤ d j ∧ d j ≤ 26) → (∀ j, j < L → 1 ≤ e j ∧ e j ≤ 26) → wN e L ≤ wM → wN d n = wN e L → n = L ∧ ∀ j, j < n → d j = e j := by
  intro L
  induction L with
  | zero =>
    intro n hd _ _ h
    cases n with
    | zero => exact ⟨rfl, fun j hj => absurd hj (by omega)⟩
    | succ n =>
      have h1 := hd n (by omega)
      rw [wN_s] at h
      have e0 : wN e 0 = 0 := rfl
      rw [e0] at h
      split at h
      · omega
      · next h2 => exact absurd (by omega) h2
  | succ L ih =>
    intro n hd he hM h
    have h3 := he L (by omega)
    have hL : wN e L ≤ wM := by
      rw [wN_s] at hM
      split at hM
      · assumption
      · assumption
    have eL : wN e (L + 1) = 32 * wN e L + e L := by rw [wN_s, if_pos hL]
    rw [eL] at h hM
    cases n with
    | zero =>
      have e0 : wN d 0 = 0 := rfl
      rw [e0] at h
      omega
    | succ n =>
      have h1 := hd n (by omega)
      have hn : wN d n ≤ wM := by
        rw [wN_s] at h
        split at h
        · assumption
        · omega
      rw [wN_s, if_pos hn] at h
      obtain ⟨i1, i2⟩ := ih n (fun j hj => hd j (by omega)) (fun j hj => he j (by omega)) hL (by omega)
      refine ⟨by omega, fun j hj => ?_⟩
      by_cases ej : j = n
      · subst ej; subst i1; omega
      · exact i2 j (by omega)
def cW (i : Nat) : Nat := [402853, 5517, 20451829191, 20600240, 15403, 7931092, 52, 1253, 3764, 431284, 769604].getD i 0
def eD (i j : Nat) : Nat := (jch i j).toNatClampNeg - 96
theorem eD_all : ∀ i, i < 11 → wN (eD i) (jsL.getD i 0) = cW i ∧ cW i ≤ wM ∧ cW i ≠ 0 ∧ jsL.getD i 0 ≤ 7 ∧ ∀ j, j < jsL.getD i 0 → (1 ≤ eD i j ∧ eD i j ≤ 26) ∧ jch i j = nI (96 + eD i j) := by decide +kernel
theorem wv_tie {d : Nat → Nat} {f : Nat} : ∀ n, (∀ j, j < n → (1 ≤ d j ∧ d j ≤ 26) ∧ tap (f + j) = nI (96 + d j)) → it (ms_wS tap f) n 0 = lN (wN d n) := by
  intro n
  induction n with
  | zero => intro _; rfl
  | succ n ih =>
    intro h
    have hb := wN_le (d := d) (L := n) (fun j hj => (h j (by omega)).1) n (Nat.le_refl n)
    have hM : wM = 36028797018963967 := rfl
    rw [it_s, ih (fun j hj => h j (by omega)), ms_wS, wN_s, (h n (by omega)).2]
    have e1 : (nI (96 + d n) - 96).toInt64 = lN (d n) := by
      rw [show (96 : Int32) = nI 96 from rfl, pk_sub (by omega), nI_l (by have := (h n (by omega)).1; omega)]
      congr 1; omega
    have e2 : (lN (wN d n) ≤ 36028797018963967) ↔ wN d n ≤ wM := pk_lLE (b := 36028797018963967) (by omega) (by omega)
    rw [e1]
    by_cases hc : wN d n ≤ wM
    · rw [if_pos (e2.mpr hc), if_pos hc, show (32 : Int64) = lN 32 from rfl, lN_mul, lN_add]
    · rw [if_neg (fun q => hc (e2.mp q)), if_neg hc]
theorem eL_in {f j : Nat} (h1 : f ≤ j) (h2 : j < x_eL b c f) : j < c ∧ cL (b j) = true := by
  have hn : x_eLP b c j = false := ff_no _ _ _ h1 h2
  simp only [x_eLP, Bool.or_eq_false_iff, Bool.not_eq_false', decide_eq_false_iff_not] at hn
  exact ⟨by omega, hn.2⟩
theorem eD_in {f j : Nat} (h1 : f ≤ j) (h2 : j < x_eD b c f) : j < c ∧ cD (b j) = true := by
  have hn : x_eDP b c j = false := ff_no _ _ _ h1 h2
  simp only [x_eDP, Bool.or_eq_false_iff, Bool.not_eq_false', decide_eq_false_iff_not] at hn
  exact ⟨by omega, hn.2⟩
theorem ff_all {P : Nat → Bool} {n : Nat} : (n ≤ ff P n 0) ↔ ∀ j, j < n → P j = false := by
  constructor
  · intro h j hj
    exact ff_no n 0 j (by omega) (by omega)
  · intro h
    rcases Nat.lt_or_ge (ff P n 0) n with q | q
    · have h2 : ∀ k j, j + k = n → ff P k j < n → P (ff P k j) = true := by
        intro k
        induction k with
        | zero => intro j h3 h4; rw [ff] at h4; omega
        | succ k ih =>
          intro j h3 h4
          rw [ff] at h4 ⊢
          split
          · assumption
          · next h5 => rw [if_neg h5] at h4; exact ih (j + 1) (by omega) h4
      have h3 := h2 n 0 (by omega) q
      rw [h _ q] at h3
      exact absurd h3 (by decide)
    · exact q
theorem word_tie (h : TP b tap c) {q : XQ} {p : TQ} (hp : PR b tap c q p) {i : Nat} (hi : i < 11) : decide (ms_wd tap c p = lN (cW i)) = x_wOK b i q := by
  obtain ⟨p1, p2, p3, ho, hk⟩ := hp
  obtain ⟨c1, c2, c3, c4, c5⟩ := eD_all i hi
  have hM : wM = 36028797018963967 := rfl
  have hz : ¬ (0 : Int64) = lN (cW i) := fun e => by have := (pk_lEQ (a := 0) (b := cW i) (by omega) (by omega)).mp e; omega
  unfold ms_wd x_wOK
  rw [p1, Bool.false_or, p2, p3, b_L h]
  by_cases hL : q.1 < c ∧ cL (b q.1) = true
  · rw [decide_eq_true hL.1, hL.2]
    have ht : q.2.2.1 = 1 ∧ q.2.1 = x_eL b c q.1 := by
      rcases hk with k | k | k | k
      · omega
      · exact k.2.2
      · rw [k.2.1] at hL; exact absurd hL.2 (by decide)
      · rw [k.2.1] at hL; exact absurd hL.2 (by decide)
    rw [ht.1, ht.2, decide_eq_true rfl, Bool.true_and]
    have hge := xeL_ge b c q.1
    have hin : ∀ j, j < x_eL b c q.1 - q.1 → ∃ k, 97 ≤ k ∧ k ≤ 122 ∧ b (q.1 + j) = nI k ∧ tap (q.1 + j) = nI k := by
      intro j hj
      obtain ⟨g1, g2⟩ := eL_in (b := b) (c := c) (f := q.1) (j := q.1 + j) (by omega) (by omega)
      exact (b_LD h g1 g2).2
    let d : Nat → Nat := fun j => (tap (q.1 + j)).toNatClampNeg - 96
    have hd : ∀ j, j < x_eL b c q.1 - q.1 → (1 ≤ d j ∧ d j ≤ 26) ∧ tap (q.1 + j) = nI (96 + d j) ∧ b (q.1 + j) = nI (96 + d j) := by
      intro j hj
      obtain ⟨k, k1, k2, k3, k4⟩ := hin j hj
      have e : d j = k - 96 := by show (tap (q.1 + j)).toNatClampNeg - 96 = _; rw [k4, nI_clamp (by omega)]
      rw [e]
      exact ⟨by omega, by rw [k4]; congr 1; omega, by rw [k3]; congr 1; omega⟩
    have hw : ms_wv tap q.1 (x_eL b c q.1) = lN (wN d (x_eL b c q.1 - q.1)) := by
      unfold ms_wv
      exact wv_tie _ (fun j hj => ⟨(hd j hj).1, (hd j hj).2.1⟩)
    have hwl := wN_le (d := d) (fun j hj => (hd j hj).1) (x_eL b c q.1 - q.1) (Nat.le_refl _)
    simp only [Bool.and_self, Bool.not_true, Bool.false_eq_true, if_false]
    rw [hw]
    have e1 : (lN (wN d (x_eL b c q.1 - q.1)) = lN (cW i)) ↔ wN d (x_eL b c q.1 - q.1) = cW i := pk_lEQ (by omega) (by omega)
    have e2 : (wN d (x_eL b c q.1 - q.1) = cW i) ↔ (x_eL b c q.1 - q.1 = jsL.getD i 0 ∧ jsL.getD i 0 ≤ ff (x_wP b q.1 i) (jsL.getD i 0) 0) := by
      rw [ff_all, ← c1]
      constructor
      · intro hh
        obtain ⟨g1, g2⟩ := wN_inj _ _ (fun j hj => (hd j hj).1) (fun j hj => (c5 j hj).1) (by omega) hh
        refine ⟨g1, fun j hj => ?_⟩
        unfold x_wP
        rw [(hd j (by omega)).2.2, (c5 j hj).2, g2 j (by omega), decide_eq_true rfl]
        rfl
      · intro hh
        rw [hh.1]
        refine wN_cg _ (fun j hj => ?_)
        have g := hh.2 j hj
        unfold x_wP at g
        simp only [Bool.not_eq_false', decide_eq_true_eq] at g
        rw [(hd j (by omega)).2.2, (c5 j hj).2] at g
        have := (nI_eq (by have := (hd j (by omega)).1; omega) (by have := (c5 j hj).1; omega)).mp g
        omega
    by_cases hh : wN d (x_eL b c q.1 - q.1) = cW i
    · rw [decide_eq_true (e1.mpr hh), decide_eq_true (e2.mp hh).1, decide_eq_true (e2.mp hh).2]; rfl
    · rw [decide_eq_false (fun q => hh (e1.mp q))]
      by_cases g1 : x_eL b c q.1 - q.1 = jsL.getD i 0
      · by_cases g2 : jsL.getD i 0 ≤ ff (x_wP b q.1 i) (jsL.getD i 0) 0
        · exact absurd (e2.mpr ⟨g1, g2⟩) hh
        · rw [decide_eq_false g2, Bool.and_false]; rfl
      · rw [decide_eq_false g1, Bool.false_and]; rfl
  · have e1 : (decide (q.1 < c) && cL (b q.1)) = false := by
      by_cases g : q.1 < c
      · have : cL (b q.1) = false := by
          cases g2 : cL (b q.1) with
          | false => rfl
          | true => exact absurd ⟨g, g2⟩ hL
        rw [this, Bool.and_false]
      · rw [decide_eq_false g, Bool.false_and]
    have ht : ¬ q.2.2.1 = 1 := by
      rcases hk with k | k | k | k
      · rw [k.2]; decide
      · exact absurd ⟨k.1, k.2.1⟩ hL
      · rw [k.2.2.2.1]; decide
      · rw [k.2.2.2]; split <;> decide
    rw [e1, decide_eq_false ht, Bool.false_and, Bool.not_false, if_pos rfl, decide_eq_false hz]
end TH
