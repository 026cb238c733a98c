/-! ===== all trees learn: the reference ===== -/
def Ls (t : Nat) (C : Nat → Bool) (s x : Nat → Int32) : Prop := (∀ m, m < 8 → x (2 + 10 * t + (2 + m)) = if C m then s 0 else s (2 + 10 * t + (2 + m))) ∧ ∀ j, (∀ m, m < 8 → j ≠ 2 + 10 * t + (2 + m)) → x j = s j
/-- how many of the eight -/
def cn (C : Nat → Bool) : Nat := it (fun m n => n + (if C m then 1 else 0)) 8 0
def cnI (C : Nat → Bool) (i : Nat) : Nat := it (fun m n => n + (if C m then 1 else 0)) i 0
theorem ln_ls (s : Nat → Int32) (t k : Nat) : Ls t (fun m => k.testBit m && !(ms_k s t m)) s (ms_ln s t k).1 ∧ (ms_ln s t k).2 = cn (fun m => k.testBit m && !(ms_k s t m)) := by
  have h := it_ind (f := ms_lS t k) (a := (s, 0)) (fun i x => ((∀ m, m < 8 → x.1 (2 + 10 * t + (2 + m)) = if (decide (m < i) && (k.testBit m && !(ms_k s t m))) = true then s 0 else s (2 + 10 * t + (2 + m))) ∧ ∀ j, (∀ m, m < 8 → j ≠ 2 + 10 * t + (2 + m)) → x.1 j = s j) ∧ x.2 = cnI (fun m => k.testBit m && !(ms_k s t m)) i) 8 ?_ ?_
  · refine ⟨⟨fun m hm => ?_, h.1.2⟩, h.2⟩
    have := h.1.1 m hm
    rw [show decide (m < 8) = true from decide_eq_true hm, Bool.true_and] at this
    exact this
  · exact ⟨⟨fun m hm => by simp, fun j _ => rfl⟩, rfl⟩
  · intro i x hi h
    obtain ⟨⟨h1, h2⟩, h3⟩ := h
    have e0 : x.1 0 = s 0 := h2 0 (fun m _ => by omega)
    have ek : ms_k x.1 t i = ms_k s t i := by
      unfold ms_k
      rw [h1 i hi]
      simp
    have ec : cnI (fun m => k.testBit m && !(ms_k s t m)) (i + 1) = cnI (fun m => k.testBit m && !(ms_k s t m)) i + (if (k.testBit i && !(ms_k s t i)) = true then 1 else 0) := by
      unfold cnI
      rw [it_s]
    rw [ec]
    unfold ms_lS
    rw [ek, e0]
    by_cases hc : (k.testBit i && !(ms_k s t i)) = true
    · rw [if_pos hc, if_pos hc]
      refine ⟨⟨fun m hm => ?_, fun j hj => ?_⟩, by rw [← h3]⟩
      · show upd x.1 (2 + 10 * t + (2 + i)) (s 0) (2 + 10 * t + (2 + m)) = _
        by_cases e : m = i
        · subst e
          rw [pk_us, if_pos (by simp [hc])]
        · rw [pk_un (by omega), h1 m hm]
          have : (m < i + 1) ↔ m < i := by omega
          simp only [this]
      · show upd x.1 (2 + 10 * t + (2 + i)) (s 0) j = _
        rw [pk_un (hj i hi)]
        exact h2 j hj
    · rw [if_neg hc, if_neg hc]
      refine ⟨⟨fun m hm => ?_, h2⟩, by rw [← h3]; rfl⟩
      rw [h1 m hm]
      by_cases e : m = i
      · subst e
        have hc2 : (k.testBit m && !(ms_k s t m)) = false := by simpa using hc
        simp only [hc2, Bool.and_false]
      · have : (m < i + 1) ↔ m < i := by omega
        simp only [this]
def Ym (N : Nat → Nat → Bool) (i : Nat) (s x : Nat → Int32) : Prop := (∀ t, t < i → ∀ m, m < 8 → x (2 + 10 * t + (2 + m)) = if N t m then s 0 else s (2 + 10 * t + (2 + m))) ∧ ∀ j, (∀ t, t < i → ∀ m, m < 8 → j ≠ 2 + 10 * t + (2 + m)) → x j = s j
theorem Ym.rf (N : Nat → Nat → Bool) (s : Nat → Int32) : Ym N 0 s s := ⟨fun t h => absurd h (by omega), fun _ _ => rfl⟩
theorem Ym.f0 {N : Nat → Nat → Bool} {i : Nat} {s x : Nat → Int32} (h : Ym N i s x) : x 0 = s 0 ∧ x 1 = s 1 := ⟨h.2 0 (fun t _ m _ => by omega), h.2 1 (fun t _ m _ => by omega)⟩
theorem Ym.fk {N : Nat → Nat → Bool} {i : Nat} {s x : Nat → Int32} (h : Ym N i s x) (t : Nat) : x (2 + 10 * t) = s (2 + 10 * t) ∧ x (2 + 10 * t + 1) = s (2 + 10 * t + 1) := ⟨h.2 _ (fun t _ m _ => by omega), h.2 _ (fun t _ m _ => by omega)⟩
theorem Ym.st {N : Nat → Nat → Bool} {i : Nat} {s x y : Nat → Int32} {C : Nat → Bool} (h : Ym N i s x) (k : Ls i C x y) (hC : ∀ m, m < 8 → C m = N i m) : Ym N (i + 1) s y := by
  refine ⟨fun t ht m hm => ?_, fun j hj => ?_⟩
  · by_cases e : t = i
    · subst e
      rw [k.1 m hm, hC m hm, h.f0.1, h.2 _ (fun t' _ m' _ => by omega)]
    · rw [k.2 _ (fun m' _ => by omega)]
      exact h.1 t (by omega) m hm
  · rw [k.2 j (fun m hm => hj i (by omega) m hm)]
    exact h.2 j (fun t ht m hm => hj t (by omega) m hm)
theorem nsB_i (s : Nat → Int32) (t : Nat) : ∀ i j, (it (ms_newsS s t) i 0).testBit j = (decide (j < i) && ms_newsB s t j) := by
  intro i
  induction i with
  | zero => intro j; rw [it_0]; simp
  | succ i ih =>
    intro j
    rw [it_s, ms_newsS, Nat.testBit_or, ih j]
    by_cases e : j = i
    · subst e
      cases hB : ms_newsB s t j <;> simp [Nat.testBit_two_pow]
    · have : (j < i + 1) ↔ j < i := by omega
      have h2 : ¬ i = j := fun q => e q.symm
      cases hB : ms_newsB s t i <;> simp [Nat.testBit_two_pow, this, h2]
theorem news_bit (s : Nat → Int32) (t : Nat) {m : Nat} (hm : m < 8) : (ms_news s t).testBit m = ms_newsB s t m := by
  unfold ms_news
  rw [nsB_i s t 8 m, decide_eq_true hm, Bool.true_and]
theorem kbB_i (s : Nat → Int32) (t : Nat) : ∀ i j, (it (ms_kbS s t) i 0).testBit j = (decide (j < i) && ms_k s t j) := by
  intro i
  induction i with
  | zero => intro j; rw [it_0]; simp
  | succ i ih =>
    intro j
    rw [it_s, ms_kbS, Nat.testBit_or, ih j]
    by_cases e : j = i
    · subst e
      cases hB : ms_k s t j <;> simp [Nat.testBit_two_pow]
    · have : (j < i + 1) ↔ j < i := by omega
      have h2 : ¬ i = j := fun q => e q.symm
      cases hB : ms_k s t i <;> simp [Nat.testBit_two_pow, this, h2]
theorem ms_k_cg {s x : Nat → Int32} {t m : Nat} (h : x (2 + 10 * t + (2 + m)) = s (2 + 10 * t + (2 + m))) : ms_k x t m = ms_k s t m := by
  unfold ms_k
  rw [h]
theorem Ym_hs (s : Nat → Int32) : Ym (ms_newsB s) 12 s (it (ms_hearsS (ms_news s)) 12 s) := by
  refine it_ind (fun i x => Ym (ms_newsB s) i s x) 12 (Ym.rf _ s) ?_
  intro i x hi h
  rw [ms_hearsS]
  refine h.st (ln_ls x i (ms_news s i)).1 (fun m hm => ?_)
  have ek : ms_k x i m = ms_k s i m := ms_k_cg (h.2 _ (fun t' _ m' _ => by omega))
  rw [news_bit s i hm, ek]
  unfold ms_newsB
  cases ms_k s i m <;> simp
theorem mage_i (s : Nat → Int32) : ∀ i, (∀ t, it ms_ageS i s (2 + 10 * t + 1) = if t < i then s (2 + 10 * t + 1) + (if 999 ≤ s (2 + 10 * t + 1) then 0 else 1) else s (2 + 10 * t + 1)) ∧ ∀ j, (∀ t, j ≠ 2 + 10 * t + 1) → it ms_ageS i s j = s j := by
  intro i
  induction i with
  | zero => exact ⟨fun t => by rw [it_0, if_neg (by omega)], fun j _ => rfl⟩
  | succ i ih =>
    obtain ⟨h1, h2⟩ := ih
    rw [it_s, ms_ageS]
    refine ⟨fun t => ?_, fun j hj => ?_⟩
    · by_cases e : t = i
      · subst e
        have e2 : it ms_ageS t s (2 + 10 * t + 1) = s (2 + 10 * t + 1) := by rw [h1 t, if_neg (Nat.lt_irrefl t)]
        rw [pk_us, e2, if_pos (Nat.lt_succ_self t)]
      · rw [pk_un (by omega), h1 t]
        have : (t < i + 1) ↔ t < i := by omega
        simp only [this]
    · rw [pk_un (hj i), h2 j hj]
/-! ===== the relation: an avenue, and a row of the reference, in the messages of M ===== -/
def RZ (M : Nat → Prop) (q : AV) (s : Nat → Int32) : Prop := s 0 = q.1 ∧ s 1 = q.2.1 ∧ ∀ t, t < 12 → s (2 + 10 * t) = q.2.2.1 t ∧ ((q.2.2.1 t = 3 ∨ s (2 + 10 * t + 1) = q.2.2.2.1 t) ∧ (M 8 → s (2 + 10 * t + 1) = q.2.2.2.1 t)) ∧ ∀ m, m < 8 → M m → s (2 + 10 * t + (2 + m)) = sn q t m
theorem RZ.yr {M : Nat → Prop} {q x : AV} {s y : Nat → Int32} {N K : Nat → Nat → Bool} (h : RZ M q s) (hx : Yr N 12 q x) (hy : Ym K 12 s y) (hN : ∀ t, t < 12 → ∀ m, m < 8 → M m → K t m = N t m) : RZ M x y := by
  refine ⟨hy.f0.1.trans (h.1.trans hx.1.symm), hy.f0.2.trans (h.2.1.trans hx.2.1.symm), fun t ht => ⟨?_, ?_, fun m hm hM => ?_⟩⟩
  · rw [(hy.fk t).1, (h.2.2 t ht).1, hx.2.2.1]
  · rw [(hy.fk t).2, hx.2.2.1, hx.2.2.2.1]; exact (h.2.2 t ht).2.1
  · rw [hy.1 t ht m hm, hN t ht m hm hM, hx.snx ht hm, h.1, (h.2.2 t ht).2.2 m hm hM]
theorem k_tie {M : Nat → Prop} {q : AV} {s : Nat → Int32} {Y : Nat} (hq : IV Y q) (hY : Y < 2 ^ 30) (h : RZ M q s) {t m : Nat} (ht : t < 12) (hm : m < 8) (hM : M m) : ms_k s t m = av_k q t m := by
  unfold ms_k
  rw [(h.2.2 t ht).2.2 m hm hM, sn]
  cases av_k q t m with
  | false => simp
  | true =>
    obtain ⟨l, hl, e⟩ := hq.2.2.2 (t * 8 + m) (by omega)
    rw [e, if_pos rfl, decide_eq_false (nI_m1 (by omega))]
    rfl
theorem yg_all : ∀ a, a < 1000 → (3 : Int32) + (if (10 : Int32) ≤ nI a then (0 : Int32) else 10 - nI a) = 3 + (if 0 < 10 - nI a then 10 - nI a else 0) ∧ (1 : Int32) + (if (10 : Int32) ≤ nI a then (0 : Int32) else 10 - nI a) = 3 + (if 0 < 10 - nI a then 10 - nI a else 0) - 2 := by decide +kernel
theorem leans_tie {M : Nat → Prop} {q : AV} {s : Nat → Int32} {Y : Nat} (hq : IV Y q) (h : RZ M q s) {t : Nat} (ht : t < 12) : ms_leans s t = av_leans q t := by
  obtain ⟨a, ha, e⟩ := (hq.2.2.1 t ht).2.1
  have hy := yg_all a (by omega)
  unfold ms_leans av_leans ms_young av_sap
  rw [(h.2.2 t ht).1]
  rcases (h.2.2 t ht).2.1.1 with e3 | ea
  · rw [e3]
    simp only [show ¬ (3 : Int32) = 1 by decide, show ¬ (3 : Int32) = 2 by decide, if_true, if_false]
  · rw [ea, e, hy.1, hy.2]
theorem nods_tie {M : Nat → Prop} {q : AV} {s : Nat → Int32} (h : RZ M q s) {t : Nat} (ht : t < 12) : ms_nods s t = av_nods q t := by
  unfold ms_nods av_nods
  rw [(h.2.2 t ht).1]
  rcases (h.2.2 t ht).2.1.1 with e3 | ea
  · rw [e3]
    simp only [show ¬ (3 : Int32) = 1 by decide, show ¬ (3 : Int32) = 2 by decide, if_true, if_false]
  · rw [ea]
theorem hear_tie {M : Nat → Prop} {q : AV} {s : Nat → Int32} (h : RZ M q s) {t : Nat} (ht : t < 12) (b : Bool) : ms_hear s t b = av_hear q t b := by
  unfold ms_hear av_hear
  rw [(h.2.2 t ht).1, h.1]
  rcases (h.2.2 t ht).2.1.1 with e3 | ea
  · rw [e3]
    simp only [show ¬ (3 : Int32) = 1 by decide, show ¬ (3 : Int32) = 2 by decide, if_true, if_false]
  · rw [ea]
theorem met_tie {M : Nat → Prop} {q : AV} {s : Nat → Int32} (h : RZ M q s) (p : Nat) : ms_met s p = av_met q p := by
  unfold ms_met av_met
  rw [h.2.1]
theorem told_tie {M : Nat → Prop} {q : AV} {s : Nat → Int32} {Y : Nat} (hq : IV Y q) (hY : Y < 2 ^ 30) (h : RZ M q s) {t m : Nat} {w : Int32} (ht : t < 12) (hm : m < 8) (hM : M m) : ms_told s t m w = av_tB q t m w := by
  unfold ms_told av_tB
  rw [k_tie hq hY h ht hm hM, h.1, (h.2.2 t ht).2.2 m hm hM, sn]
  cases av_k q t m <;> simp
theorem news_tie {M : Nat → Prop} {q : AV} {s : Nat → Int32} {Y : Nat} {mk : Int32} (hq : IV Y q) (hY : Y < 2 ^ 30) (h : RZ M q s) (hmk : ∀ m, m < 8 → M m → bt mk m = true) {t m : Nat} (ht : t < 12) (hm : m < 8) (hM : M m) : ms_newsB s t m = av_nB q mk t m := by
  unfold ms_newsB av_nB
  rw [k_tie hq hY h ht hm hM, hmk m hm hM, hear_tie h ht, hear_tie h ht, met_tie h, told_tie hq hY h (by omega) hm hM, told_tie hq hY h (xor1_lt ht) hm hM, leans_tie hq h (by omega), nods_tie h (xor1_lt ht), Bool.true_and]
theorem ag2_all : ∀ a, a < 1000 → nI a + (if (999 : Int32) ≤ nI a then 0 else 1) = if 999 < nI a + 1 then 999 else nI a + 1 := by decide +kernel
theorem sn_age (q : AV) (t m : Nat) : sn (av_age q) t m = sn q t m := by
  have h := (age_i q 12).2.2.2.1
  unfold sn av_k av_age
  rw [h]
theorem age_tie {M : Nat → Prop} {q : AV} {s : Nat → Int32} {Y : Nat} (hq : IV Y q) (h : RZ M q s) : RZ M (av_age q) (ms_age s) := by
  obtain ⟨h1, h2, h3, h4, h5⟩ := age_i q 12
  obtain ⟨m1, m2⟩ := mage_i s 12
  refine ⟨?_, ?_, fun t ht => ⟨?_, ?_, fun m hm hM => ?_⟩⟩
  · unfold ms_age av_age
    rw [m2 0 (fun t => by omega), h1, h.1]
  · unfold ms_age av_age
    rw [m2 1 (fun t => by omega), h2, h.2.1]
  · unfold ms_age av_age
    rw [m2 _ (fun t => by omega), h3, (h.2.2 t ht).1]
  · unfold ms_age av_age
    rw [m1 t, if_pos ht, h5 t, if_pos ht, h3]
    obtain ⟨a, ha, e⟩ := (hq.2.2.1 t ht).2.1
    have hg : s (2 + 10 * t + 1) = q.2.2.2.1 t → s (2 + 10 * t + 1) + (if 999 ≤ s (2 + 10 * t + 1) then 0 else 1) = if 999 < q.2.2.2.1 t + 1 then 999 else q.2.2.2.1 t + 1 := by
      intro e2
      rw [e2, e]
      exact ag2_all a (by omega)
    exact ⟨(h.2.2 t ht).2.1.1.imp id hg, fun h8 => hg ((h.2.2 t ht).2.1.2 h8)⟩
  · rw [sn_age]
    unfold ms_age
    rw [m2 _ (fun t => by omega)]
    exact (h.2.2 t ht).2.2 m hm hM
theorem year_tie {M : Nat → Prop} {q : AV} {s : Nat → Int32} {Y : Nat} {mk : Int32} (hq : IV Y q) (hY : Y < 2 ^ 30) (h : RZ M q s) (hmk : ∀ m, m < 8 → M m → bt mk m = true) : RZ M (av_yr mk q) (ms_year s) := by
  have ha := age_tie hq h
  have hr : RZ M (av_yr1 mk q) (ms_year1 s) := ha.yr (yr1_yr hq) (by unfold ms_year1; exact Ym_hs (ms_age s)) (fun t ht m hm hM => news_tie (age_iv hq) hY ha hmk ht hm hM)
  refine ⟨?_, ?_, fun t ht => ⟨?_, ?_, fun m hm hM => ?_⟩⟩
  · unfold ms_year
    rw [pk_us, hr.1]
    rfl
  · unfold ms_year
    rw [pk_un (by omega), hr.2.1]
    rfl
  · unfold ms_year
    rw [pk_un (by omega), (hr.2.2 t ht).1]
    rfl
  · unfold ms_year
    rw [pk_un (by omega)]
    exact (hr.2.2 t ht).2.1
  · unfold ms_year
    rw [pk_un (by omega), (hr.2.2 t ht).2.2 m hm hM]
    rfl
/-- both, years gone by -/
def RT (M : Nat → Prop) (Y : Nat) (q : AV) (s : Nat → Int32) : Prop := IV Y q ∧ RZ M q s
theorem RT.mono {M : Nat → Prop} {Y Z : Nat} {q : AV} {s : Nat → Int32} (h : RT M Y q s) (hz : Y ≤ Z) : RT M Z q s := ⟨h.1.mono hz, h.2⟩
theorem RT.less {M K : Nat → Prop} {Y : Nat} {q : AV} {s : Nat → Int32} (h : RT M Y q s) (hk : ∀ m, K m → M m) : RT K Y q s := ⟨h.1, h.2.1, h.2.2.1, fun t ht => ⟨(h.2.2.2 t ht).1, ⟨(h.2.2.2 t ht).2.1.1, fun h8 => (h.2.2.2 t ht).2.1.2 (hk 8 h8)⟩, fun m hm hM => (h.2.2.2 t ht).2.2 m hm (hk m hM)⟩⟩
theorem RT.ys {M : Nat → Prop} {Y : Nat} {q : AV} {s : Nat → Int32} {mk : Int32} (h : RT M Y q s) (hmk : ∀ m, m < 8 → M m → bt mk m = true) : ∀ n, Y + n < 2 ^ 30 → RT M (Y + n) (av_ys mk n q) (ms_ys n s) := by
  intro n
  induction n with
  | zero => intro _; exact h
  | succ n ih =>
    intro hn
    have := ih (by omega)
    unfold av_ys ms_ys at this ⊢
    rw [it_s, it_s]
    exact ⟨yr_iv this.1, year_tie this.1 (by omega) this.2 hmk⟩
