/-! ===== the text, tied: numbers, items, all of it ===== -/
theorem nft : ¬ (false = true) := by decide
section TI
variable {b tap : Nat → Int32} {c : Nat}
theorem must_v {p : TQ} (hp : p.2.2.2 = false) : (ms_must tap c true p).2.2.1 = p.2.2.1 := by
  unfold ms_must
  rw [hp]
  rfl
/-- the reference's number v, the class's w -/
def NV (v w : Int32) : Prop := ∃ n, n ≤ 9999 ∧ v = nI n ∧ w = nI (min n 1000)
theorem nS_tie {v w : Int32} {k : Nat} (h : NV v w) (h1 : 48 ≤ k) (h2 : k ≤ 57) : NV (if v ≤ 999 then 10 * v + nI k - 48 else v) (if 1000 < 10 * w + nI k - 48 then 1000 else 10 * w + nI k - 48) := by
  obtain ⟨n, hn, rfl, rfl⟩ := h
  have e1 : (10 : Int32) * nI n + nI k - 48 = nI (10 * n + (k - 48)) := by
    rw [show (10 : Int32) = nI 10 from rfl, pk_mul, nI_add, show (48 : Int32) = nI 48 from rfl, pk_sub (by omega)]
    congr 1; omega
  have e2 : (10 : Int32) * nI (min n 1000) + nI k - 48 = nI (10 * min n 1000 + (k - 48)) := by
    rw [show (10 : Int32) = nI 10 from rfl, pk_mul, nI_add, show (48 : Int32) = nI 48 from rfl, pk_sub (by omega)]
    congr 1; omega
  have c1 : (nI n ≤ 999) ↔ n ≤ 999 := nI_leI (b := 999) (by omega) (by omega)
  have c2 : ((1000 : Int32) < nI (10 * min n 1000 + (k - 48))) ↔ 1000 < 10 * min n 1000 + (k - 48) := nI_ltI (a := 1000) (by omega) (by omega)
  rw [e1, e2]
  by_cases h3 : n ≤ 999
  · rw [if_pos (c1.mpr h3)]
    refine ⟨10 * n + (k - 48), by omega, rfl, ?_⟩
    by_cases h4 : 1000 < 10 * min n 1000 + (k - 48)
    · rw [if_pos (c2.mpr h4), show min (10 * n + (k - 48)) 1000 = 1000 by omega]; rfl
    · rw [if_neg (fun q => h4 (c2.mp q))]; congr 1; omega
  · rw [if_neg (fun q => h3 (c1.mp q)), if_pos (c2.mpr (by omega))]
    exact ⟨n, hn, rfl, by rw [show min n 1000 = 1000 by omega]; rfl⟩
theorem nv_tie (h : TP b tap c) (f : Nat) : ∀ i, i ≤ x_eD b c f - f → NV (it (ms_nS tap f) i 0) (it (x_nS b f) i 0) := by
  intro i
  induction i with
  | zero => intro _; exact ⟨0, by omega, rfl, rfl⟩
  | succ i ih =>
    intro hi
    obtain ⟨g1, g2⟩ := eD_in (b := b) (c := c) (f := f) (j := f + i) (by omega) (by omega)
    obtain ⟨k, k1, k2, k3, k4⟩ := b_DD h g1 g2
    rw [it_s, it_s, ms_nS, x_nS, k3, k4]
    exact nS_tie (ih (by omega)) k1 k2
/-- a number, taken by both -/
theorem num_tie (h : TP b tap c) (hc : c ≤ 120) {q : XQ} {p : TQ} {mx : Nat} (hm : mx ≤ 999) (hp : PR b tap c q p) : (x_nOK mx q = true ∧ PR b tap c (x_tn b c mx q) (ms_num tap c 0 mx p) ∧ ∃ v, v ≤ mx ∧ x_nr mx q = nI v ∧ (ms_num tap c 0 mx p).2.2.1 = nI v) ∨ (x_nOK mx q = false ∧ x_nr mx q = -1 ∧ x_tn b c mx q = q ∧ (ms_num tap c 0 mx p).2.2.2 = true ∧ (ms_num tap c 0 mx p).1 = q.1) := by
  have hp0 := hp
  obtain ⟨p1, p2, p3, ho, hk⟩ := hp
  have en : ms_num tap c 0 mx p = ms_must tap c (ms_nok tap c 0 mx p) (p.1, p.2.1, ms_nv tap c p.1 p.2.1, false) := by unfold ms_num; rw [p1, if_neg nft]
  have hp2 : PR b tap c q (p.1, p.2.1, ms_nv tap c p.1 p.2.1, false) := ⟨rfl, p2, p3, ho, hk⟩
  rw [en]
  by_cases hD : q.2.2.1 = 2
  · have hq : q.1 < c ∧ cD (b q.1) = true ∧ q.2.1 = x_eD b c q.1 ∧ q.2.2.2 = x_nv b c q.1 := by
      rcases hk with k | k | k | k
      · rw [k.2] at hD; exact absurd hD (by decide)
      · rw [k.2.2.1] at hD; exact absurd hD (by decide)
      · exact ⟨k.1, k.2.2.1, k.2.2.2.2.1, k.2.2.2.2.2⟩
      · rw [k.2.2.2] at hD; split at hD <;> exact absurd hD (by decide)
    obtain ⟨q1, q2, q3, q4⟩ := hq
    have eD1 : inI (ms_by tap c p.1) 48 57 = true := by rw [p2, b_D h, decide_eq_true q1, q2]; rfl
    obtain ⟨n, hn, e1, e2⟩ := nv_tie h q.1 _ (Nat.le_refl _)
    have ev : ms_nv tap c p.1 p.2.1 = nI n := by
      unfold ms_nv
      rw [eD1, if_pos rfl, p2, p3, q3]
      exact e1
    have ew : q.2.2.2 = nI (min n 1000) := by
      rw [q4, x_nv]
      exact e2
    have ok1 : ms_nok tap c 0 mx p = decide (n ≤ mx) := by
      unfold ms_nok
      rw [eD1, Bool.true_and, ev, inI_t]
      rw [nI_toInt (by omega), pk_lT (by omega), pk_lT (by omega)]
      by_cases g : n ≤ mx
      · first | (simp [g]; done) | (simp [g]; omega)
      · first | (simp [g]; done) | (simp [g]; omega)
    have ok2 : x_nOK mx q = decide (n ≤ mx) := by
      unfold x_nOK
      rw [decide_eq_true hD, Bool.true_and, ew]
      refine decide_eq_decide.mpr ?_
      rw [nI_leI (by omega) (by omega)]
      omega
    rw [ok1, ok2]
    by_cases g : n ≤ mx
    · rw [decide_eq_true g] at ok2 ⊢
      have er : x_nr mx q = nI n := by rw [x_nr, ok2, if_pos rfl, ew, show min n 1000 = n by omega]
      refine Or.inl ⟨rfl, ?_, n, g, er, ?_⟩
      · rw [x_tn, ok2, if_pos rfl]
        exact hp2.must h hc
      · rw [must_v rfl]
        exact ev
    · rw [decide_eq_false g] at ok2 ⊢
      have hf := must_f hp2
      exact Or.inr ⟨rfl, by rw [x_nr, ok2, if_neg nft], by rw [x_tn, ok2, if_neg nft], hf.1, hf.2⟩
  · have ok2 : x_nOK mx q = false := by unfold x_nOK; rw [decide_eq_false hD, Bool.false_and]
    have eD1 : inI (ms_by tap c p.1) 48 57 = false := by
      rw [p2, b_D h]
      rcases hk with k | k | k | k
      · rw [decide_eq_false (show ¬ q.1 < c by omega), Bool.false_and]
      · rw [(b_LD h k.1 k.2.1).1, Bool.and_false]
      · exact absurd k.2.2.2.1 hD
      · rw [k.2.2.1, Bool.and_false]
    have ok1 : ms_nok tap c 0 mx p = false := by unfold ms_nok; rw [eD1, Bool.false_and]
    rw [ok1]
    have hf := must_f hp2
    exact Or.inr ⟨ok2, by rw [x_nr, ok2, if_neg nft], by rw [x_tn, ok2, if_neg nft], hf.1, hf.2⟩
/-- a word, taken by both -/
theorem tw_tie (h : TP b tap c) (hc : c ≤ 120) {q : XQ} {p : TQ} {i : Nat} (hp : PR b tap c q p) (hw : x_wOK b i q = true) : PR b tap c (x_tw b c i q) (ms_must tap c true p) := by
  rw [x_tw, hw, if_pos rfl]
  exact hp.must h hc
theorem m1_lt : ¬ (0 : Int32) ≤ -1 := by decide
variable {v : AV} {s : Nat → Int32} {Y : Nat}
/-- an item's end: both go on alike, or both have found the fault at one place -/
def IE (b tap : Nat → Int32) (c Y : Nat) (x : Bool × XQ × AV) (y : (Nat → Int32) × TQ) : Prop := (x.1 = true ∧ PR b tap c x.2.1 y.2 ∧ RT AL Y x.2.2 y.1 ∧ x.2.2.1 = v.1 ∨ x.1 = false ∧ y.2.2.2.2 = true ∧ y.2.1 = x.2.1.1)
theorem tr_tie (h : TP b tap c) (hc : c ≤ 120) {q : XQ} {p : TQ} {k : Nat} (hk : k < 6) (hr : RT AL Y v s) (hp : PR b tap c (x_tw b c k q) (ms_must tap c true p)) : IE (v := v) b tap c Y (x_tr b c v (nI k) (x_tw b c k q)) (ms_ti tap c s (nI k) p) := by
  generalize hq0 : x_tw b c k q = q0 at hp ⊢
  have ew : decide (ms_wd tap c (ms_must tap c true p) = 52) = x_wOK b 6 q0 := word_tie h hp (i := 6) (by omega)
  have e2 : ms_t2 tap c p = ms_must tap c (x_wOK b 6 q0) (ms_must tap c true p) := by unfold ms_t2; rw [ew]
  unfold x_tr ms_ti
  cases hw : x_wOK b 6 q0 with
  | false =>
    rw [if_neg nft]
    rw [hw] at e2
    have hf := must_f hp
    rw [← e2] at hf
    have e3 : ms_t3 tap c p = ms_t2 tap c p := by unfold ms_t3; exact num_w hf.1
    have e4 : ms_t4 tap c p = ms_t2 tap c p := by unfold ms_t4; rw [e3]; exact num_w hf.1
    rw [e4, hf.1, if_pos rfl]
    refine Or.inr ⟨rfl, hf.1, ?_⟩
    show (ms_t2 tap c p).1 = (x_t1 b c q0).1
    rw [hf.2, x_t1, x_tw, hw, if_neg nft]
  | true =>
    rw [if_pos rfl]
    rw [hw] at e2
    have h1 : PR b tap c (x_t1 b c q0) (ms_t2 tap c p) := by rw [e2]; unfold x_t1; exact tw_tie h hc hp hw
    rcases num_tie h hc (mx := 5) (by omega) h1 with ⟨n1, n2, a, ha, n3, n4⟩ | ⟨n1, n2, n3, n4, n5⟩
    · have h2 : PR b tap c (x_t2 b c q0) (ms_t3 tap c p) := n2
      have n4' : (ms_t3 tap c p).2.2.1 = nI a := n4
      rw [n3, if_pos (nI_pos' (by omega))]
      rcases num_tie h hc (mx := 1) (by omega) h2 with ⟨k1, k2, d, hd, k3, k4⟩ | ⟨k1, k2, k3, k4, k5⟩
      · have h3 : PR b tap c (x_t3 b c q0) (ms_t4 tap c p) := k2
        have k4' : (ms_t4 tap c p).2.2.1 = nI d := k4
        rw [k3, if_pos (nI_pos' (by omega)), h3.1, if_neg nft]
        have eT : x_tT b c q0 = 2 * a + d := by
          unfold x_tT x_nn
          rw [n3, k3, nI_clamp (by omega), nI_clamp (by omega)]
        have eX : ms_tx tap c p = 2 * a + d := by
          unfold ms_tx
          rw [n4', k4', show (2 : Int32) = nI 2 from rfl, pk_mul, nI_add]
          exact nI_clamp (by omega)
        have ew7 : decide (ms_wd tap c (ms_t4 tap c p) = 1253) = x_wOK b 7 (x_t3 b c q0) := word_tie h h3 (i := 7) (by omega)
        rw [eT, eX]
        cases hw7 : x_wOK b 7 (x_t3 b c q0) with
        | false =>
          rw [hw7, decide_eq_false_iff_not] at ew7
          rw [if_neg ew7, if_neg nft]
          refine Or.inl ⟨rfl, ?_, anew_tie hr (by omega) ⟨k, by omega, rfl⟩ ⟨0, by omega, rfl⟩, rfl⟩
          show PR b tap c (x_t4 b c q0) (ms_t4 tap c p)
          rw [x_t4, x_tw, hw7, if_neg nft]
          exact h3
        | true =>
          rw [hw7, decide_eq_true_eq] at ew7
          rw [if_pos ew7, if_pos rfl]
          have h4 : PR b tap c (x_t4 b c q0) (ms_must tap c true (ms_t4 tap c p)) := tw_tie h hc h3 hw7
          rcases num_tie h hc (mx := 999) (by omega) h4 with ⟨l1, l2, g, hg, l3, l4⟩ | ⟨l1, l2, l3, l4, l5⟩
          · have h5 : PR b tap c (x_t5 b c q0) (ms_t6 tap c p) := l2
            have l4' : (ms_t6 tap c p).2.2.1 = nI g := l4
            rw [l3, if_pos (nI_pos' (by omega)), h5.1, if_neg nft, l4']
            have hx := anew_tie hr (show 2 * a + d < 12 by omega) (k := nI k) (a := 0) ⟨k, by omega, rfl⟩ ⟨0, by omega, rfl⟩
            have hy := aged_tie hx (show 2 * a + d < 12 by omega) (k := nI g) ⟨g, hg, rfl⟩
            have e8 : av_aged (av_anew v (2 * a + d) (nI k) 0) (2 * a + d) (nI g) = av_anew v (2 * a + d) (nI k) (nI g) := by
              unfold av_aged av_anew
              simp only [upd2]
            rw [e8] at hy
            exact Or.inl ⟨rfl, h5, hy, rfl⟩
          · rw [l2, if_neg m1_lt]
            refine Or.inr ⟨rfl, l4, ?_⟩
            show (ms_t6 tap c p).1 = (x_t5 b c q0).1
            have e9 : x_t5 b c q0 = x_t4 b c q0 := l3
            rw [e9]
            exact l5
      · have e4 : (ms_t4 tap c p).2.2.2 = true := k4
        rw [k2, if_neg m1_lt, e4, if_pos rfl]
        refine Or.inr ⟨rfl, e4, ?_⟩
        show (ms_t4 tap c p).1 = (x_t3 b c q0).1
        have e9 : x_t3 b c q0 = x_t2 b c q0 := k3
        rw [e9]
        exact k5
    · have e3 : (ms_t3 tap c p).2.2.2 = true := n4
      have e4 : ms_t4 tap c p = ms_t3 tap c p := by unfold ms_t4; exact num_w e3
      rw [n2, if_neg m1_lt, e4, e3, if_pos rfl]
      refine Or.inr ⟨rfl, e3, ?_⟩
      show (ms_t3 tap c p).1 = (x_t2 b c q0).1
      have e9 : x_t2 b c q0 = x_t1 b c q0 := n3
      rw [e9]
      exact n5
theorem pr_tie (h : TP b tap c) (hc : c ≤ 120) {q : XQ} {p : TQ} {i : Nat} (f : Bool) (hr : RT AL Y v s) (hp : PR b tap c (x_tw b c i q) (ms_must tap c true p)) (y : (Nat → Int32) × TQ) (hy : y = if (ms_num tap c 0 5 (ms_must tap c true p)).2.2.2 then (s, ms_num tap c 0 5 (ms_must tap c true p)) else (ms_meets s (ms_num tap c 0 5 (ms_must tap c true p)).2.2.1.toNatClampNeg f, ms_num tap c 0 5 (ms_must tap c true p))) : IE (v := v) b tap c Y (decide (0 ≤ x_nr 5 (x_tw b c i q)), x_tn b c 5 (x_tw b c i q), x_pV v (x_tw b c i q) f) y := by
  subst hy
  rcases num_tie h hc (mx := 5) (by omega) hp with ⟨n1, n2, a, ha, n3, n4⟩ | ⟨n1, n2, n3, n4, n5⟩
  · have hpos : (0 : Int32) ≤ nI a := nI_pos' (by omega)
    rw [n2.1, if_neg nft, n4, nI_clamp (by omega), x_pV, n3, if_pos hpos, x_nn, n3, nI_clamp (by omega), decide_eq_true hpos]
    exact Or.inl ⟨rfl, n2, setI_tie hr (by omega) f, rfl⟩
  · rw [n4, if_pos rfl, n2, decide_eq_false m1_lt, n3]
    exact Or.inr ⟨rfl, n4, n5⟩
theorem mg_tie (h : TP b tap c) (hc : c ≤ 120) (hY : Y < 2 ^ 30) {q : XQ} {p : TQ} {i : Nat} (hr : RT AL Y v s) (hp : PR b tap c (x_tw b c i q) (ms_must tap c true p)) : IE (v := v) b tap c Y (x_mB b c (x_tw b c i q), x_mQ b c (x_tw b c i q), x_mV b c v (x_tw b c i q)) (ms_wi tap c s p) := by
  generalize hq0 : x_tw b c i q = q0 at hp ⊢
  unfold ms_wi
  rcases num_tie h hc (mx := 7) (by omega) hp with ⟨n1, n2, a, ha, n3, n4⟩ | ⟨n1, n2, n3, n4, n5⟩
  · have h2 : PR b tap c (x_m1 b c q0) (ms_w2 tap c p) := n2
    have n4' : (ms_w2 tap c p).2.2.1 = nI a := n4
    have hpos : (0 : Int32) ≤ nI a := nI_pos' (by omega)
    rcases num_tie h hc (mx := 1) (by omega) h2 with ⟨k1, k2, d, hd, k3, k4⟩ | ⟨k1, k2, k3, k4, k5⟩
    · have h3 : PR b tap c (x_tn b c 1 (x_m1 b c q0)) (ms_w3 tap c p) := k2
      have k4' : (ms_w3 tap c p).2.2.1 = nI d := k4
      have hpos2 : (0 : Int32) ≤ nI d := nI_pos' (by omega)
      have eB : x_mB b c q0 = true := by rw [x_mB, n3, k3, decide_eq_true hpos, decide_eq_true hpos2]; rfl
      rw [h3.1, if_neg nft, k4', n4', nI_clamp (by omega), nI_clamp (by omega), x_mV, eB, if_pos rfl, x_mQ, n3, if_pos hpos, x_nn, x_nn, k3, n3, nI_clamp (by omega), nI_clamp (by omega)]
      refine Or.inl ⟨rfl, h3, ln_tie hr hY (by omega) (by omega), ?_⟩
      show (if av_k v d a = true then v else av_learn v d a).1 = v.1
      split <;> rfl
    · have e4 : (ms_w3 tap c p).2.2.2 = true := k4
      have eB : x_mB b c q0 = false := by rw [x_mB, n3, k2, decide_eq_false m1_lt, Bool.and_false]
      rw [e4, if_pos rfl, eB]
      refine Or.inr ⟨rfl, e4, ?_⟩
      show (ms_w3 tap c p).1 = (x_mQ b c q0).1
      rw [x_mQ, n3, if_pos hpos, k3]
      exact k5
  · have e3 : (ms_w2 tap c p).2.2.2 = true := n4
    have e4 : ms_w3 tap c p = ms_w2 tap c p := by unfold ms_w3; exact num_w e3
    have eB : x_mB b c q0 = false := by rw [x_mB, n2, decide_eq_false m1_lt, Bool.false_and]
    rw [e4, e3, if_pos rfl, eB]
    refine Or.inr ⟨rfl, e3, ?_⟩
    show (ms_w2 tap c p).1 = (x_mQ b c q0).1
    rw [x_mQ, n2, if_neg m1_lt, x_m1, n3]
    exact n5
theorem kf_at {q : XQ} {j : Nat} (hj : j < 6) (h1 : x_wOK b j q = true) (h0 : ∀ i, i < j → x_wOK b i q = false) : x_kf b q = j := by
  unfold x_kf
  have h2 : ff (x_kP b q) 6 0 ≤ j := ff_hit h1 6 0 (by omega) (by omega)
  rcases Nat.lt_or_ge (ff (x_kP b q) 6 0) j with g | g
  · exfalso
    have h3 : ∀ k i, i + k = 6 → ff (x_kP b q) k i < 6 → x_kP b q (ff (x_kP b q) k i) = true := by
      intro k
      induction k with
      | zero => intro i e1 e2; rw [ff] at e2; omega
      | succ k ih =>
        intro i e1 e2
        rw [ff] at e2 ⊢
        split
        · assumption
        · next e3 => rw [if_neg e3] at e2; exact ih (i + 1) (by omega) e2
    have h4 : x_wOK b (ff (x_kP b q) 6 0) q = true := h3 6 0 rfl (by omega)
    have h5 := h0 _ g
    rw [h5] at h4
    exact absurd h4 (by decide)
  · omega
theorem kf_no {q : XQ} (h0 : ∀ i, i < 6 → x_wOK b i q = false) : x_kf b q = 6 := by
  unfold x_kf
  have h1 : 6 ≤ ff (x_kP b q) 6 0 := ff_all.mpr h0
  have h2 := ff_le (x_kP b q) 6 0
  omega
theorem cW_ne : ∀ i, i < 11 → ∀ j, j < 11 → i ≠ j → lN (cW i) ≠ lN (cW j) := by decide +kernel
theorem kd_all : ∀ i, i < 6 → ms_kd (lN (cW i)) = nI i := by decide +kernel
theorem kd_all2 : ∀ i, i < 11 → 6 ≤ i → ms_kd (lN (cW i)) = -1 := by decide +kernel
theorem item_tie (h : TP b tap c) (hc : c ≤ 120) (hY : Y < 2 ^ 30) {q : XQ} {p : TQ} (hr : RT AL Y v s) (hp : PR b tap c q p) : IE (v := v) b tap c Y (x_it b c v q) (ms_item tap c s p) := by
  have hw : ∀ i, i < 11 → decide (ms_wd tap c p = lN (cW i)) = x_wOK b i q := fun i hi => word_tie h hp hi
  -- if it is one word, it is no other
  have one : ∀ i, i < 11 → ms_wd tap c p = lN (cW i) → x_wOK b i q = true ∧ ∀ j, j < 11 → j ≠ i → x_wOK b j q = false := by
    intro i hi e
    refine ⟨by rw [← hw i hi, decide_eq_true e], fun j hj hne => ?_⟩
    rw [← hw j hj, e, decide_eq_false (cW_ne i hi j hj (fun q => hne q.symm))]
  by_cases hk : ∃ k, k < 6 ∧ ms_wd tap c p = lN (cW k)
  · obtain ⟨k, hk6, e⟩ := hk
    obtain ⟨o1, o2⟩ := one k (by omega) e
    have ek : x_kf b q = k := kf_at hk6 o1 (fun i hi => o2 i (by omega) (by omega))
    unfold x_it ms_item
    rw [ek, if_pos hk6, e, kd_all k hk6, if_neg (nI_pos (by omega))]
    exact tr_tie h hc hk6 hr (tw_tie h hc hp o1)
  · have hno : ∀ i, i < 6 → x_wOK b i q = false := by
      intro i hi
      rw [← hw i (by omega)]
      exact decide_eq_false (fun e => hk ⟨i, hi, e⟩)
    have ek : x_kf b q = 6 := kf_no hno
    have ekd : ms_kd (ms_wd tap c p) = -1 := by
      have g : ∀ i, i < 6 → ¬ ms_wd tap c p = lN (cW i) := fun i hi e => hk ⟨i, hi, e⟩
      unfold ms_kd
      rw [if_neg (show ¬ ms_wd tap c p = 402853 from g 0 (by omega)), if_neg (show ¬ ms_wd tap c p = 5517 from g 1 (by omega)), if_neg (show ¬ ms_wd tap c p = 20451829191 from g 2 (by omega)), if_neg (show ¬ ms_wd tap c p = 20600240 from g 3 (by omega)), if_neg (show ¬ ms_wd tap c p = 15403 from g 4 (by omega)), if_neg (show ¬ ms_wd tap c p = 7931092 from g 5 (by omega))]
    unfold x_it ms_item
    rw [ek, if_neg (by omega), ekd, if_pos (show (-1 : Int32) < 0 by decide)]
    by_cases e10 : ms_wd tap c p = lN (cW 10)
    · obtain ⟨o1, o2⟩ := one 10 (by omega) e10
      rw [o2 8 (by omega) (by omega), o2 9 (by omega) (by omega), o1, if_neg nft, if_neg nft, if_pos rfl, if_pos (show ms_wd tap c p = 769604 from e10)]
      exact mg_tie h hc hY hr (tw_tie h hc hp o1)
    · rw [if_neg (show ¬ ms_wd tap c p = 769604 from e10)]
      by_cases e8 : ms_wd tap c p = lN (cW 8)
      · obtain ⟨o1, o2⟩ := one 8 (by omega) e8
        rw [o1, if_pos rfl]
        have em : ms_m2 tap c p = ms_num tap c 0 5 (ms_must tap c true p) := by
          unfold ms_m2
          rw [decide_eq_true (show ms_wd tap c p = 3764 from e8), Bool.or_true]
        have e9 : decide (ms_wd tap c p = 431284) = false := decide_eq_false (fun e => by rw [e8] at e; exact absurd e (by decide))
        refine pr_tie h hc (i := 8) false hr (tw_tie h hc hp o1) _ ?_
        unfold ms_mi
        rw [em, e9]
      · have o8 : x_wOK b 8 q = false := by rw [← hw 8 (by omega)]; exact decide_eq_false e8
        rw [o8, if_neg nft]
        by_cases e9 : ms_wd tap c p = lN (cW 9)
        · obtain ⟨o1, o2⟩ := one 9 (by omega) e9
          rw [o1, if_pos rfl]
          have e9t : decide (ms_wd tap c p = 431284) = true := decide_eq_true e9
          have em : ms_m2 tap c p = ms_num tap c 0 5 (ms_must tap c true p) := by
            unfold ms_m2
            rw [e9t, Bool.true_or]
          refine pr_tie h hc (i := 9) true hr (tw_tie h hc hp o1) _ ?_
          unfold ms_mi
          rw [em, e9t]
        · have o9 : x_wOK b 9 q = false := by rw [← hw 9 (by omega)]; exact decide_eq_false e9
          have o10 : x_wOK b 10 q = false := by rw [← hw 10 (by omega)]; exact decide_eq_false e10
          rw [o9, o10, if_neg nft, if_neg nft]
          have f8 : decide (ms_wd tap c p = 3764) = false := decide_eq_false (show ¬ ms_wd tap c p = 3764 from e8)
          have f9 : decide (ms_wd tap c p = 431284) = false := decide_eq_false (show ¬ ms_wd tap c p = 431284 from e9)
          have hf := must_f hp
          have em : ms_m2 tap c p = ms_must tap c false p := by
            unfold ms_m2
            rw [f8, f9, Bool.or_self]
            exact num_w hf.1
          unfold ms_mi
          rw [em, hf.1, if_pos rfl]
          exact Or.inr ⟨rfl, hf.1, hf.2⟩
/-- the whole text -/
def OE (c Y : Nat) (v : AV) (x : XR) (y : (Nat → Int32) × TQ × Nat) : Prop := (avW c y = false ∧ x.1 = nI y.2.2 ∧ y.2.2 ≤ 121 ∧ RT AL Y x.2.2 y.1 ∧ x.2.2.1 = v.1) ∨ (avW c y = true ∧ x.1 = -1 - nI y.2.1.1)
theorem lo_tie (h : TP b tap c) (hc : c ≤ 120) (hY : Y < 2 ^ 30) {v0 : AV} : ∀ (k n j : Nat) (v : AV) (s : Nat → Int32) (q : XQ) (p : TQ), k + n = 121 → k < j → n ≤ p.1 + 1 → RT AL Y v s → v.1 = v0.1 → PR b tap c q p → OE c Y v0 (x_lL b c k v q n) (ms_avL tap c j (ms_item tap c s p).1 (ms_item tap c s p).2 n) := by
  intro k
  induction k with
  | zero =>
    intro n j v s q p hkn hj hn hr hv hp
    have hend : c ≤ q.1 := by have := hp.2.1; omega
    have ht : q.2.2.1 = 0 := by
      rcases hp.2.2.2.2 with g | g | g | g
      · exact g.2
      · omega
      · omega
      · omega
    have hwz : ∀ i, x_wOK b i q = false := fun i => by unfold x_wOK; rw [ht, decide_eq_false (by decide), Bool.false_and]
    have eit : x_it b c v q = (false, q, v) := by
      unfold x_it
      rw [kf_no (fun i _ => hwz i), if_neg (by omega), hwz 8, hwz 9, hwz 10, if_neg nft, if_neg nft, if_neg nft]
    have hi := item_tie (v := v) h hc hY hr hp
    rw [eit] at hi
    rcases hi with g | ⟨-, g2, g3⟩
    · exact absurd (show false = true from g.1) nft
    · rw [avL_out (by rw [g2]; rfl)]
      refine Or.inr ⟨by unfold avW; dsimp only; rw [g2, Bool.true_or], ?_⟩
      show -1 - nI q.1 = -1 - nI (ms_item tap c s p).2.1
      rw [g3]
  | succ k ih =>
    intro n j v s q p hkn hj hn hr hv hp
    have hi := item_tie (v := v) h hc hY hr hp
    have hge : p.1 ≤ (ms_item tap c s p).2.1 := item_ge hp.2.2.2.1 hc
    rw [x_lL]
    rcases hi with ⟨g1, g2, g3, g4⟩ | ⟨g1, g2, g3⟩
    · rw [g1, if_pos rfl]
      generalize x_it b c v q = x at g1 g2 g3 g4 ⊢
      have hwr : (ms_item tap c s p).2.2.2.2 = false := g2.1
      have hfr : (ms_item tap c s p).2.1 = x.2.1.1 := g2.2.1
      have h59 := b_59 h (ms_item tap c s p).2.1
      rcases g2.2.2.2.2 with t | t | t | t
      · rw [if_pos t.2]
        have e59 : decide (ms_by tap c (ms_item tap c s p).2.1 = 59) = false := by rw [h59, hfr, decide_eq_false (show ¬ x.2.1.1 < c by omega), Bool.false_and]
        rw [avL_out (by rw [hwr, e59]; rfl)]
        refine Or.inl ⟨by unfold avW; dsimp only; rw [hwr, hfr, decide_eq_true t.1]; rfl, rfl, by show n ≤ 121; omega, g3, g4.trans hv⟩
      · have ht : ¬ x.2.1.2.2.1 = 0 := by rw [t.2.2.1]; decide
        have ht3 : ¬ x.2.1.2.2.1 = 3 := by rw [t.2.2.1]; decide
        rw [if_neg ht, if_neg ht3]
        obtain ⟨-, kk, k1, k2, k3, -⟩ := b_LD h t.1 t.2.1
        have e1 : ¬ nI kk = 59 := fun e => by have := (nI_eq (a := kk) (b := 59) (by omega) (by omega)).mp e; omega
        have e59 : decide (ms_by tap c (ms_item tap c s p).2.1 = 59) = false := by
          rw [h59, hfr, k3, decide_eq_false e1, Bool.and_false]
        rw [avL_out (by rw [hwr, e59]; rfl)]
        refine Or.inr ⟨by unfold avW; dsimp only; rw [hfr, decide_eq_false (show ¬ c ≤ x.2.1.1 by omega), Bool.not_false, Bool.or_true], ?_⟩
        show -1 - nI x.2.1.1 = -1 - nI (ms_item tap c s p).2.1
        rw [hfr]
      · have ht : ¬ x.2.1.2.2.1 = 0 := by rw [t.2.2.2.1]; decide
        have ht3 : ¬ x.2.1.2.2.1 = 3 := by rw [t.2.2.2.1]; decide
        rw [if_neg ht, if_neg ht3]
        obtain ⟨kk, k1, k2, k3, -⟩ := b_DD h t.1 t.2.2.1
        have e1 : ¬ nI kk = 59 := fun e => by have := (nI_eq (a := kk) (b := 59) (by omega) (by omega)).mp e; omega
        have e59 : decide (ms_by tap c (ms_item tap c s p).2.1 = 59) = false := by
          rw [h59, hfr, k3, decide_eq_false e1, Bool.and_false]
        rw [avL_out (by rw [hwr, e59]; rfl)]
        refine Or.inr ⟨by unfold avW; dsimp only; rw [hfr, decide_eq_false (show ¬ c ≤ x.2.1.1 by omega), Bool.not_false, Bool.or_true], ?_⟩
        show -1 - nI x.2.1.1 = -1 - nI (ms_item tap c s p).2.1
        rw [hfr]
      · by_cases hsc : b x.2.1.1 = 59
        · rw [if_pos hsc] at t
          have ht : ¬ x.2.1.2.2.1 = 0 := by rw [t.2.2.2]; decide
          rw [if_neg ht, if_pos t.2.2.2]
          have e59 : decide (ms_by tap c (ms_item tap c s p).2.1 = 59) = true := by rw [h59, hfr, decide_eq_true t.1, decide_eq_true hsc]; rfl
          rw [avL_in (by omega) (by rw [hwr, e59]; rfl)]
          have hp2 := g2.must h hc
          refine ih (n + 1) (j - 1) x.2.2 _ _ _ (by omega) (by omega) ?_ g3 (g4.trans hv) hp2
          have o := g2.2.2.2.1
          have m1 : (ms_item tap c s p).2.2.1 ≤ (ms_must tap c true (ms_item tap c s p).2).1 := by
            unfold ms_must
            rw [hwr]
            exact fr_ge _ _ _
          have m2 := o.2.2 (by rw [hfr]; exact t.1)
          omega
        · rw [if_neg hsc] at t
          have ht : ¬ x.2.1.2.2.1 = 0 := by rw [t.2.2.2]; decide
          have ht3 : ¬ x.2.1.2.2.1 = 3 := by rw [t.2.2.2]; decide
          rw [if_neg ht, if_neg ht3]
          have e59 : decide (ms_by tap c (ms_item tap c s p).2.1 = 59) = false := by rw [h59, hfr, decide_eq_false hsc, Bool.and_false]
          rw [avL_out (by rw [hwr, e59]; rfl)]
          refine Or.inr ⟨by unfold avW; dsimp only; rw [hfr, decide_eq_false (show ¬ c ≤ x.2.1.1 by omega), Bool.not_false, Bool.or_true], ?_⟩
          show -1 - nI x.2.1.1 = -1 - nI (ms_item tap c s p).2.1
          rw [hfr]
    · rw [g1, if_neg nft]
      rw [avL_out (by rw [g2]; rfl)]
      refine Or.inr ⟨by unfold avW; dsimp only; rw [g2, Bool.true_or], ?_⟩
      show -1 - nI (x_it b c v q).2.1.1 = -1 - nI (ms_item tap c s p).2.1
      rw [g3]
theorem av_tie (h : TP b tap c) (hc : c ≤ 120) (hY : Y < 2 ^ 30) {q : XQ} {vl : Int32} (hr : RT AL Y v s) : OE c Y v (x_lo b c v q) (ms_av tap c s vl) := by
  unfold x_lo ms_av
  refine lo_tie h hc hY 120 1 121 v s _ _ (by omega) (by omega) (by omega) hr rfl ?_
  unfold x_q0
  exact adv_tie h hc (Nat.zero_le c) rfl
end TI
