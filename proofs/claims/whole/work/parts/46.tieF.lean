/-! ===== the searches, tied ===== -/
theorem it_rel {α β : Type} {f : Nat → α → α} {g : Nat → β → β} {a : α} {b : β} (P : α → β → Prop) (n : Nat) (h0 : P a b) (hs : ∀ i x y, i < n → P x y → P (f i x) (g i y)) : P (it f n a) (it g n b) := by
  have h : ∀ i, i ≤ n → P (it f i a) (it g i b) := by
    intro i
    induction i with
    | zero => intro _; exact h0
    | succ i ih => intro hi; rw [it_s, it_s]; exact hs i _ _ (by omega) (ih (by omega))
  exact h n (Nat.le_refl n)
theorem ff_cong {P Q : Nat → Bool} : ∀ k j, (∀ i, j ≤ i → i < j + k → P i = Q i) → ff P k j = ff Q k j := by
  intro k
  induction k with
  | zero => intro j _; rfl
  | succ k ih =>
    intro j h
    rw [ff, ff, h j (Nat.le_refl j) (by omega), ih (j + 1) (fun i h1 h2 => h i (by omega) (by omega))]
theorem ff_succ {P : Nat → Bool} : ∀ k j, ff P (k + 1) j = if ff P k j < j + k then ff P k j else if P (j + k) then j + k else j + k + 1 := by
  intro k
  induction k with
  | zero => intro j; rw [ff, ff, ff]; simp
  | succ k ih =>
    intro j
    rw [ff, ih (j + 1)]
    have e : ff P (k + 1) j = if P j then j else ff P k (j + 1) := by rw [ff]
    rw [e]
    have e2 : j + 1 + k = j + (k + 1) := by omega
    by_cases h : P j = true
    · rw [if_pos h, if_pos h, if_pos (by omega)]
    · rw [if_neg h, if_neg h, e2]
theorem one_bit {m : Nat} (hm : m < 8) : ∀ j, j < 8 → j = m → bt (1 <<< (nI m &&& 31)) j = true := by
  intro j hj e
  rw [bt_1 m hm j hj, e]
  exact decide_eq_true rfl
theorem al_bit : ∀ m, m < 8 → AL m → bt 255 m = true := fun m hm _ => bt_255 m hm
section TF
variable {q : AV} {s : Nat → Int32} {Y : Nat}
theorem RT.one (h : RT AL Y q s) (m : Nat) : RT (fun j => j = m) Y q s := h.less (fun _ _ => trivial)
theorem gh_tie {m : Nat} (h : RT (fun j => j = m) Y q s) (hY : Y ≤ 20000) (hm : m < 8) : ms_kh s m = av_gh q m := by
  unfold ms_kh av_gh
  refine ff_cong 201 0 (fun i _ hi => ?_)
  have hr := h.ys (one_bit hm) i (by omega)
  unfold ms_hmP av_hmP ms_hm av_hm
  rw [k_tie hr.1 (by omega) hr.2 (by omega) hm rfl, k_tie hr.1 (by omega) hr.2 (by omega) hm rfl]
theorem liR_ff (q : AV) (m t : Nat) : ∀ j, j ≤ 201 → liR q m j t = if ff (fun i => av_k (av_ys (1 <<< (nI m &&& 31)) i q) t m) j 0 < j then nI (ff (fun i => av_k (av_ys (1 <<< (nI m &&& 31)) i q) t m) j 0) else 201 := by
  intro j
  induction j with
  | zero => intro _; rw [liR, if_neg (by omega)]
  | succ j ih =>
    intro hj
    rw [liR, ih (by omega), ff_succ, Nat.zero_add]
    generalize hf : ff (fun i => av_k (av_ys (1 <<< (nI m &&& 31)) i q) t m) j 0 = f
    by_cases h1 : f < j
    · rw [if_pos h1, if_pos h1, if_pos (show f < j + 1 by omega)]
      have e : ¬ nI f = 201 := fun e => by have := (nI_eq (a := f) (b := 201) (by omega) (by omega)).mp e; omega
      rw [decide_eq_false e, Bool.false_and, if_neg (by decide)]
    · rw [if_neg h1, if_neg h1]
      rw [decide_eq_true rfl, Bool.true_and]
      by_cases hP : av_k (av_ys (1 <<< (nI m &&& 31)) j q) t m = true
      · rw [if_pos hP, if_pos hP, if_pos (Nat.lt_succ_self j)]
      · rw [if_neg hP, if_neg hP, if_neg (by omega)]
theorem li_tie {m t : Nat} (h : RT AL Y q s) (hY : Y ≤ 20000) (ht : t < 12) (hm : m < 8) : liR q m 201 t = nI (ms_kt s t m) := by
  have e : ms_kt s t m = ff (fun i => av_k (av_ys (1 <<< (nI m &&& 31)) i q) t m) 201 0 := by
    unfold ms_kt
    refine ff_cong 201 0 (fun i _ hi => ?_)
    have hr := (h.one m).ys (one_bit hm) i (by omega)
    unfold ms_ktP
    exact k_tie hr.1 (by omega) hr.2 ht hm rfl
  have hl := kt_le s t m
  rw [liR_ff q m t 201 (Nat.le_refl _), ← e]
  by_cases h1 : ms_kt s t m < 201
  · rw [if_pos h1]
  · rw [if_neg h1, show ms_kt s t m = 201 by omega]
    rfl
theorem la_i {f : Nat → Int32} {m : Nat} {ge : Nat → Int32} (hf : ∀ t, t < 12 → f t = nI (ms_kt s t m)) : ∀ k, k < 12 → (it (ms_laS s m) (k + 1) (0, -1, ge)).1 = nI (laR f k) ∧ (it (ms_laS s m) (k + 1) (0, -1, ge)).2.1 = f (laR f k) := by
  intro k
  induction k with
  | zero =>
    intro _
    have hl := kt_le s 0 m
    have e : ¬ nI (ms_kt s 0 m) ≤ -1 := fun e => nI_pos (show ms_kt s 0 m < 2 ^ 31 by omega) (Int32.lt_of_le_of_lt e (by decide))
    rw [it_s, it_0, ms_laS, laR, hf 0 (by omega)]
    constructor
    · show ltB 0 (-1) (nI 0) (nI (ms_kt s 0 m)) = _
      rw [ltB, if_neg e]
    · show ltS (-1) (nI (ms_kt s 0 m)) = _
      rw [ltS, if_neg e]
  | succ k ih =>
    intro hk
    obtain ⟨h1, h2⟩ := ih (by omega)
    rw [it_s, ms_laS, laR]
    dsimp only
    rw [h1, h2, hf (k + 1) hk, ltB, ltS]
    by_cases h3 : nI (ms_kt s (k + 1) m) ≤ f (laR f k)
    · rw [if_pos h3, if_pos h3, if_pos h3]; exact ⟨rfl, rfl⟩
    · rw [if_neg h3, if_neg h3, if_neg h3]; exact ⟨rfl, (hf (k + 1) hk).symm⟩
theorem la_tie {m : Nat} {ge : Nat → Int32} (h : RT AL Y q s) (hY : Y ≤ 20000) (hm : m < 8) : nI (laR (liR q m 201) 11) = (ms_la s m ge).1 := by
  unfold ms_la
  exact ((la_i (f := liR q m 201) (fun t ht => li_tie h hY ht hm) 11 (by omega)).1).symm
theorem met0 (h : RT AL Y q s) {p : Nat} (hp : p < 6) : ((s 1 >>> (nI p &&& 31)) &&& 1 = 0) ↔ av_met q p = false := by
  obtain ⟨k, hk, e⟩ := h.1.2.1
  unfold av_met
  rw [h.2.2.1, e, bit_t (by omega) (by omega)]
  have h2 : k / 2 ^ p % 2 < 2 := Nat.mod_lt _ (by omega)
  rw [show (0 : Int32) = nI 0 from rfl, show (1 : Int32) = nI 1 from rfl, nI_eq (by omega) (by omega), decide_eq_false_iff_not, nI_eq (by omega) (by omega)]
  omega
theorem in_tie2 {m : Nat} {ge : Nat → Int32} (h : RT AL Y q s) (hY : Y ≤ 20000) (hm : m < 8) : (cin q m).2.1 = (ms_in s m ge).1 := by
  unfold cin ms_in
  refine (it_rel (fun (x : T3) (y : Q5) => x.1 = y.2.1 ∧ x.2.1 = y.1) 6 ⟨?_, rfl⟩ ?_).2
  · dsimp only; rw [gh_tie (h.one m) hY hm]
  · intro i x y hi hxy
    obtain ⟨h1, h2⟩ := hxy
    rw [cinS, ms_inS]
    have e := met0 h hi
    have eg : ms_kh (ms_inZ s i) m = av_gh (av_setI q i true) m := gh_tie ((setI_tie h hi true).one m) hY hm
    cases hmt : av_met q i with
    | true =>
      have : ¬ (s 1 >>> (nI i &&& 31)) &&& 1 = 0 := fun e2 => by rw [e.mp e2] at hmt; exact absurd hmt (by decide)
      rw [if_neg this, if_pos rfl]
      exact ⟨h1, h2⟩
    | false =>
      rw [if_pos (e.mpr hmt), if_neg (by decide)]
      dsimp only
      rw [eg, h1, h2]
      exact ⟨rfl, rfl⟩
theorem li_tie2 {m : Nat} {ge : Nat → Int32} (h : RT AL Y q s) (hY : Y ≤ 20000) (hm : m < 8) : (cli q m).2.1 = (ms_li s m ge).1 := by
  unfold cli ms_li
  refine (it_rel (fun (x : T3) (y : Q4) => x.1 = y.2.1 ∧ x.2.1 = y.1) 12 ⟨?_, rfl⟩ ?_).2
  · dsimp only; rw [gh_tie (h.one m) hY hm]
  · intro i x y hi hxy
    obtain ⟨h1, h2⟩ := hxy
    rw [cliS, ms_liS, (h.2.2.2 i hi).1]
    have eg : ms_kh (ms_liZ s i) m = av_gh (av_kind q i 0) m := gh_tie ((kind_tie h hi ⟨0, by omega, rfl⟩).one m) hY hm
    by_cases h0 : q.2.2.1 i = 0
    · rw [if_pos h0, if_pos h0]; exact ⟨h1, h2⟩
    · rw [if_neg h0, if_neg h0]
      dsimp only
      rw [eg, h1, h2]
      exact ⟨rfl, rfl⟩
theorem ki_tie2 {t m : Nat} {tr : AV} {as0 ge : Nat → Int32} (h : RT AL Y q s) (hY : Y ≤ 20000) (ht : t < 12) (hm : m < 8) : (cki q t m tr).2.1 = (ms_ki s t m as0 ge).1 := by
  unfold cki ms_ki
  refine (it_rel (fun (x : T3) (y : Q5) => x.1 = y.2.1 ∧ x.2.1 = y.1) 6 ⟨rfl, rfl⟩ ?_).2
  intro i x y hi hxy
  obtain ⟨h1, h2⟩ := hxy
  rw [ckiS, ms_kiS]
  have eg : ms_kh (ms_kiZ s t i) m = av_gh (av_kind q t (nI i)) m := gh_tie ((kind_tie h ht ⟨i, by omega, rfl⟩).one m) hY hm
  dsimp only
  rw [eg, h1, h2]
  exact ⟨rfl, rfl⟩
theorem si_tie2 {m : Nat} {tr : AV} {as0 ge : Nat → Int32} (h : RT AL Y q s) (hY : Y ≤ 20000) (hm : m < 8) : (csi q m tr).2.1 = (ms_si s m as0 ge).1 := by
  unfold csi ms_si
  refine (it_rel (fun (x : T3) (y : Q4) => x.1 = y.2.1 ∧ x.2.1 = y.1) 2 ⟨rfl, rfl⟩ ?_).2
  intro i x y hi hxy
  obtain ⟨h1, h2⟩ := hxy
  rw [csiS, ms_siS]
  have eg : ms_kh (ms_siZ s m i) m = av_gh (av_learn q i m) m := gh_tie ((learn_tie h (by omega) hm).one m) hY hm
  dsimp only
  rw [eg, h1, h2]
  exact ⟨rfl, rfl⟩
theorem ne_tie2 {m : Nat} {tr : AV} {as0 ge : Nat → Int32} (h : RT AL Y q s) (hY : Y ≤ 20000) (hm : m < 8) : (cne q m tr).2.1 = (ms_ne s m as0 ge).1 := by
  unfold cne ms_ne
  refine (it_rel (fun (x : T3) (y : Q4) => x.1 = y.2.1 ∧ x.2.1 = y.1) 12 ⟨rfl, rfl⟩ ?_).2
  intro i x y hi hxy
  obtain ⟨h1, h2⟩ := hxy
  rw [cneS, ms_neS]
  have eg : ms_kh (ms_neZ s m i) m = av_gh (av_anew q i 3 0) m := gh_tie (stump_tie h hi hm) hY hm
  dsimp only
  rw [eg, h1, h2]
  exact ⟨rfl, rfl⟩
theorem de_tie2 {n : Nat} {br : AV} {ge : Nat → Int32} (h : RT AL Y q s) (hY : Y ≤ 20000) (hn : n ≤ 60) : (cde q n br).2.1 = (ms_de s n ge).1 := by
  unfold cde ms_de
  refine (it_rel (fun (x : T3) (y : Q3) => x.1 = y.2.1 ∧ x.2.1 = y.1) (n + 1) ⟨rfl, rfl⟩ ?_).2
  intro i x y hi hxy
  obtain ⟨h1, h2⟩ := hxy
  rw [cdeS, ms_deS]
  have r1 := h.ys al_bit i (by omega)
  have r2 := bl_tie r1 (by omega)
  have r3 := r2.ys al_bit (n - i) (by omega)
  have eg : av_all (cdeA q n i) = nI (ms_deW s n i) := by
    unfold cdeA ms_deW
    exact all_tie r3 (by omega)
  dsimp only
  rw [eg, h1, h2]
  exact ⟨rfl, rfl⟩
theorem side0 {m : Nat} (h : RT AL Y q s) (hY : Y < 2 ^ 30) (hm : m < 8) (h0 : ms_kn s m = 0) : ∀ t, t < 12 → s (2 + 10 * t + (2 + m)) = -1 := by
  have hz : ∀ i, i ≤ 12 → it (ms_knS s m) i 0 = 0 := by
    have hmono : ∀ i k, it (ms_knS s m) i 0 ≤ it (ms_knS s m) (i + k) 0 := by
      intro i k
      induction k with
      | zero => exact Nat.le_refl _
      | succ k ih => rw [← Nat.add_assoc, it_s, ms_knS]; omega
    intro i hi
    have h1 := hmono i (12 - i)
    rw [show i + (12 - i) = 12 by omega] at h1
    unfold ms_kn at h0
    omega
  intro t ht
  have h1 := hz (t + 1) (by omega)
  rw [it_s, ms_knS] at h1
  by_cases hk : ms_k s t m = true
  · rw [if_pos hk] at h1; omega
  · have : ms_k s t m = false := by simpa using hk
    unfold ms_k at this
    simpa using this
end TF
