/-! ===== all trees learn: the class ===== -/
def Yr (N : Nat → Nat → Bool) (i : Nat) (q x : AV) : Prop := x.1 = q.1 ∧ x.2.1 = q.2.1 ∧ x.2.2.1 = q.2.2.1 ∧ x.2.2.2.1 = q.2.2.2.1 ∧ (∀ u, i ≤ u → x.2.2.2.2.1 u = q.2.2.2.2.1 u) ∧ (∀ j, i ≤ j / 8 → x.2.2.2.2.2 j = q.2.2.2.2.2 j) ∧ ∀ t, t < i → (∀ m, m < 8 → bt (x.2.2.2.2.1 t) m = (bt (q.2.2.2.2.1 t) m || N t m) ∧ x.2.2.2.2.2 (t * 8 + m) = if N t m then q.1 else q.2.2.2.2.2 (t * 8 + m)) ∧ (okN (q.2.2.2.2.1 t) 255 → okN (x.2.2.2.2.1 t) 255)
theorem Yr.rf (N : Nat → Nat → Bool) (q : AV) : Yr N 0 q q := ⟨rfl, rfl, rfl, rfl, fun _ _ => rfl, fun _ _ => rfl, fun t h => absurd h (by omega)⟩
theorem Yr.st {N : Nat → Nat → Bool} {i : Nat} {q x y : AV} {C : Nat → Bool} (h : Yr N i q x) (k : Lr i C x y) (hC : ∀ m, m < 8 → C m = N i m) : Yr N (i + 1) q y := by
  obtain ⟨h1, h2, h3, h4, h5, h6, h7⟩ := h
  obtain ⟨k1, k2, k3, k4, k5, k6, k7, k8⟩ := k
  refine ⟨k1.trans h1, k2.trans h2, k3.trans h3, k4.trans h4, fun u hu => (k5 u (by omega)).trans (h5 u (by omega)), fun j hj => (k6 j (by omega)).trans (h6 j (by omega)), fun t ht => ?_⟩
  by_cases e : t = i
  · subst e
    refine ⟨fun m hm => ⟨?_, ?_⟩, fun ho => k8 ?_⟩
    · rw [(k7 m hm).1, h5 t (Nat.le_refl t), hC m hm]
    · rw [(k7 m hm).2, h6 (t * 8 + m) (by omega), hC m hm, h1]
    · rw [h5 t (Nat.le_refl t)]; exact ho
  · refine ⟨fun m hm => ⟨?_, ?_⟩, fun ho => ?_⟩
    · rw [k5 t e]; exact ((h7 t (by omega)).1 m hm).1
    · rw [k6 (t * 8 + m) (by omega)]; exact ((h7 t (by omega)).1 m hm).2
    · rw [k5 t e]; exact (h7 t (by omega)).2 ho
/-- since when a tree knows a message; -1: it doesn't -/
def sn (q : AV) (t m : Nat) : Int32 := if av_k q t m then q.2.2.2.2.2 (t * 8 + m) else -1
/-- what an avenue of the class always is, its years at most Y -/
def IV (Y : Nat) (q : AV) : Prop := okN q.1 Y ∧ okN q.2.1 63 ∧ (∀ t, t < 12 → okN (q.2.2.1 t) 5 ∧ okN (q.2.2.2.1 t) 999 ∧ okN (q.2.2.2.2.1 t) 255) ∧ ∀ i, i < 96 → okN (q.2.2.2.2.2 i) Y
theorem Yr.iv {N : Nat → Nat → Bool} {q x : AV} {Y : Nat} (h : Yr N 12 q x) (hq : IV Y q) : IV Y x := by
  obtain ⟨h1, h2, h3, h4, h5, h6, h7⟩ := h
  obtain ⟨q1, q2, q3, q4⟩ := hq
  refine ⟨by rw [h1]; exact q1, by rw [h2]; exact q2, fun t ht => ⟨by rw [h3]; exact (q3 t ht).1, by rw [h4]; exact (q3 t ht).2.1, (h7 t ht).2 (q3 t ht).2.2⟩, fun i hi => ?_⟩
  have e := ((h7 (i / 8) (by omega)).1 (i % 8) (by omega)).2
  have e2 : i / 8 * 8 + i % 8 = i := by omega
  rw [e2] at e
  rw [e]
  split
  · exact q1
  · exact q4 i hi
theorem Yr.snx {N : Nat → Nat → Bool} {q x : AV} (h : Yr N 12 q x) {t m : Nat} (ht : t < 12) (hm : m < 8) : sn x t m = if N t m then q.1 else sn q t m := by
  have h7 := (h.2.2.2.2.2.2 t ht).1 m hm
  unfold sn
  rw [av_k_bt, av_k_bt, h7.1, h7.2]
  cases bt (q.2.2.2.2.1 t) m <;> cases hN : N t m <;> simp
/-! ===== waits are 1 or more ===== -/
theorem sap_all : ∀ a, a < 1000 → (0 : Int32) < 3 + (if 0 < 10 - nI a then 10 - nI a else 0) ∧ (0 : Int32) < 3 + (if 0 < 10 - nI a then 10 - nI a else 0) - 2 := by decide +kernel
theorem leans_pos {q : AV} {t : Nat} (h : okN (q.2.2.2.1 t) 999) : 0 < av_leans q t := by
  obtain ⟨a, ha, e⟩ := h
  have hs := sap_all a (by omega)
  unfold av_leans av_sap
  rw [e]
  split
  · decide
  · split
    · exact hs.1
    · split
      · decide
      · split
        · decide
        · split
          · exact hs.2
          · decide
theorem nods_pos {q : AV} {t : Nat} : 0 < av_nods q t := by
  unfold av_nods
  split
  · decide
  · split
    · split <;> decide
    · split
      · decide
      · split
        · decide
        · split
          · split <;> decide
          · decide
/-- one who has learnt in this year tells nobody in it -/
theorem tB_new {N : Nat → Nat → Bool} {i w m : Nat} {q x : AV} {wt : Int32} (h : Yr N i q x) (hN : N w m = true → av_k q w m = false) (hm : m < 8) (hw : 0 < wt) : av_tB x w m wt = av_tB q w m wt := by
  obtain ⟨h1, h2, h3, h4, h5, h6, h7⟩ := h
  unfold av_tB
  rw [av_k_bt, av_k_bt, h1]
  rcases Nat.lt_or_ge w i with hl | hl
  · rw [((h7 w hl).1 m hm).1, ((h7 w hl).1 m hm).2]
    cases e : N w m with
    | false => simp
    | true =>
      have := hN e
      rw [av_k_bt] at this
      rw [this, if_pos rfl, Int32.sub_self]
      simp [hw]
  · rw [h5 w hl, h6 (w * 8 + m) (by omega)]
theorem nB_cg {mk : Int32} {i : Nat} {q x : AV} (h : Yr (av_nB q mk) i q x) (hq : ∀ t, t < 12 → okN (q.2.2.2.1 t) 999) (hi : i < 12) {m : Nat} (hm : m < 8) : av_nB x mk i m = av_nB q mk i m := by
  have h1 := h.1
  have h2 := h.2.1
  have h3 := h.2.2.1
  have h4 := h.2.2.2.1
  have hN : ∀ w, av_nB q mk w m = true → av_k q w m = false := by
    intro w e
    unfold av_nB at e
    cases hk : av_k q w m with
    | false => rfl
    | true => rw [hk] at e; simp at e
  have ek : av_k x i m = av_k q i m := by rw [av_k_bt, av_k_bt, h.2.2.2.2.1 i (Nat.le_refl i)]
  have em : av_met x (i / 2) = av_met q (i / 2) := by unfold av_met; rw [h2]
  have eh : ∀ b, av_hear x i b = av_hear q i b := fun b => hear_cg h1 (by rw [h3]) (by rw [h4])
  have el : av_leans x (i - 2) = av_leans q (i - 2) := leans_cg (by rw [h3]) (by rw [h4])
  have en : av_nods x (i ^^^ 1) = av_nods q (i ^^^ 1) := nods_cg (by rw [h3]) (by rw [h4])
  have t1 : av_tB x (i - 2) m (av_leans q (i - 2)) = av_tB q (i - 2) m (av_leans q (i - 2)) := tB_new h (hN _) hm (leans_pos (hq _ (by omega)))
  have t2 : av_tB x (i ^^^ 1) m (av_nods q (i ^^^ 1)) = av_tB q (i ^^^ 1) m (av_nods q (i ^^^ 1)) := tB_new h (hN _) hm nods_pos
  rw [av_nB, ek, em, eh, eh, el, en, t1, t2]
  rfl
theorem Yr_ls {mk : Int32} {q : AV} (hq : ∀ t, t < 12 → okN (q.2.2.2.1 t) 999) : Yr (av_nB q mk) 12 q (it (av_lsS mk) 12 q) := by
  refine it_ind (fun i x => Yr (av_nB q mk) i q x) 12 (Yr.rf _ q) ?_
  intro i x hi h
  rw [av_lsS]
  exact h.st (Lr_ls hi) (fun m hm => nB_cg h hq hi hm)
/-! ===== ages ===== -/
theorem age_i (q : AV) : ∀ i, (it av_agS1 i q).1 = q.1 ∧ (it av_agS1 i q).2.1 = q.2.1 ∧ (it av_agS1 i q).2.2.1 = q.2.2.1 ∧ (it av_agS1 i q).2.2.2.2 = q.2.2.2.2 ∧ ∀ t, (it av_agS1 i q).2.2.2.1 t = if t < i then (if 999 < q.2.2.2.1 t + 1 then 999 else q.2.2.2.1 t + 1) else q.2.2.2.1 t := by
  intro i
  induction i with
  | zero => exact ⟨rfl, rfl, rfl, rfl, fun t => by rw [it_0, if_neg (by omega)]⟩
  | succ i ih =>
    obtain ⟨h1, h2, h3, h4, h5⟩ := ih
    rw [it_s]
    refine ⟨h1, h2, h3, h4, fun t => ?_⟩
    show upd (it av_agS1 i q).2.2.2.1 i _ t = _
    by_cases e : t = i
    · subst e
      have e2 : (it av_agS1 t q).2.2.2.1 t = q.2.2.2.1 t := by rw [h5 t, if_neg (Nat.lt_irrefl t)]
      rw [pk_us, e2, if_pos (Nat.lt_succ_self t)]
    · rw [pk_un e, h5 t]
      have : (t < i + 1) ↔ t < i := by omega
      simp only [this]
theorem ag_all : ∀ a, a < 1000 → okN (if 999 < nI a + 1 then 999 else nI a + 1) 999 := by
  intro a ha
  rw [nI_1]
  by_cases h : (999 : Int32) < nI (a + 1)
  · rw [if_pos h]; exact ⟨999, by omega, rfl⟩
  · rw [if_neg h]
    exact ⟨a + 1, Nat.not_lt.mp (fun q => h (nI_lt (a := 999) q (by omega))), rfl⟩
theorem age_iv {Y : Nat} {q : AV} (hq : IV Y q) : IV Y (av_age q) := by
  obtain ⟨q1, q2, q3, q4⟩ := hq
  obtain ⟨h1, h2, h3, h4, h5⟩ := age_i q 12
  unfold av_age
  refine ⟨by rw [h1]; exact q1, by rw [h2]; exact q2, fun t ht => ⟨by rw [h3]; exact (q3 t ht).1, ?_, by rw [h4]; exact (q3 t ht).2.2⟩, fun i hi => by rw [h4]; exact q4 i hi⟩
  rw [h5, if_pos ht]
  obtain ⟨a, ha, e⟩ := (q3 t ht).2.1
  rw [e]
  exact ag_all a (by omega)
theorem yr1_yr {mk : Int32} {Y : Nat} {q : AV} (hq : IV Y q) : Yr (av_nB (av_age q) mk) 12 (av_age q) (av_yr1 mk q) := by
  unfold av_yr1
  exact Yr_ls (fun t ht => ((age_iv hq).2.2.1 t ht).2.1)
theorem IV.mono {Y Z : Nat} {q : AV} (h : IV Y q) (hz : Y ≤ Z) : IV Z q := ⟨h.1.mono hz, h.2.1, h.2.2.1, fun i hi => (h.2.2.2 i hi).mono hz⟩
theorem yr_iv {mk : Int32} {Y : Nat} {q : AV} (hq : IV Y q) : IV (Y + 1) (av_yr mk q) := by
  have h := (yr1_yr (mk := mk) hq).iv (age_iv hq)
  obtain ⟨⟨y, hy, e⟩, q2, q3, q4⟩ := h
  refine ⟨⟨y + 1, by omega, ?_⟩, q2, q3, fun i hi => (q4 i hi).mono (by omega)⟩
  show (av_yr1 mk q).1 + 1 = _
  rw [e, nI_1]
