/-! ===== what is counted, and the gale ===== -/
def AL : Nat → Prop := fun _ => True
theorem it_map {α β : Type} {f : Nat → β → β} {g : Nat → α → α} (φ : α → β) {a : α} (n : Nat) (h : ∀ i x, i < n → f i (φ x) = φ (g i x)) : it f n (φ a) = φ (it g n a) := by
  have h2 : ∀ i, i ≤ n → it f i (φ a) = φ (it g i a) := by
    intro i
    induction i with
    | zero => intro _; rfl
    | succ i ih => intro hi; rw [it_s, it_s, ih (by omega)]; exact h i _ (by omega)
  exact h2 n (Nat.le_refl n)
section TD
variable {q : AV} {s : Nat → Int32} {Y : Nat}
theorem kt2 (h : RT AL Y q s) (hY : Y < 2 ^ 30) {t m : Nat} (ht : t < 12) (hm : m < 8) : ms_k s t m = av_k q t m := k_tie h.1 hY h.2 ht hm trivial
theorem kb_tie (h : RT AL Y q s) (hY : Y < 2 ^ 30) {t : Nat} (ht : t < 12) : q.2.2.2.2.1 t = nI (ms_kb s t) := by
  obtain ⟨K, hK, e⟩ := (h.1.2.2.1 t ht).2.2
  have e2 : ms_kb s t = K := by
    apply Nat.eq_of_testBit_eq
    intro j
    unfold ms_kb
    rw [kbB_i s t 8 j]
    rcases Nat.lt_or_ge j 8 with hj | hj
    · rw [decide_eq_true hj, Bool.true_and, kt2 h hY ht hj, av_k_bt, e, bt_nI (by omega) (by omega)]
    · rw [decide_eq_false (by omega), Bool.false_and]
      have : K < 2 ^ j := Nat.lt_of_lt_of_le (show K < 2 ^ 8 by omega) (Nat.pow_le_pow_right (by omega) hj)
      exact (Nat.testBit_lt_two_pow this).symm
  rw [e2, e]
theorem home_tie (h : RT AL Y q s) (hY : Y < 2 ^ 30) : av_home q = nI (ms_home s) := by
  unfold av_home ms_home
  rw [kb_tie h hY (by omega), kb_tie h hY (by omega), nI_or]
theorem any_tie (h : RT AL Y q s) (hY : Y < 2 ^ 30) : av_any q = nI (ms_all s) := by
  unfold av_any ms_all
  refine it_map (a := 0) nI 12 ?_
  intro i x hi
  rw [av_anyS, ms_allS, kb_tie h hY hi, nI_or]
theorem all_tie (h : RT AL Y q s) (hY : Y < 2 ^ 30) : av_all q = nI (ms_tog s) := by
  unfold av_all ms_tog
  refine it_map (a := 0) nI 12 ?_
  intro i x hi
  rw [av_allS, ms_togS, kb_tie h hY hi, bc_pc8 _ (kb_lt s i), nI_add]
theorem ag_tie (h : RT AL Y q s) : av_ag q = ms_ages s := by
  unfold av_ag ms_ages
  refine it_cong 12 ?_
  intro i x hi
  rw [av_agS, ms_agesS, (h.2.2.2 i hi).2.1.2 trivial]
theorem kn_tie (h : RT AL Y q s) (hY : Y < 2 ^ 30) {m : Nat} (hm : m < 8) : av_kn q m = ms_kn s m := by
  unfold av_kn ms_kn
  refine it_cong 12 ?_
  intro i x hi
  rw [av_knS, ms_knS, kt2 h hY hi hm]
  split <;> rfl
theorem tt_tie (h : RT AL Y q s) (hY : Y < 2 ^ 30) : av_tt q = it (ms_koS s) 12 0 := by
  unfold av_tt
  refine it_cong 12 ?_
  intro i x hi
  have e : (nI (ms_kb s i) = 0) ↔ ms_kb s i = 0 := nI_eq (b := 0) (by have := kb_lt s i; omega) (by omega)
  rw [av_ttS, ms_koS, kb_tie h hY hi]
  by_cases hk : ms_kb s i = 0
  · rw [if_pos (e.mpr hk), if_pos hk, Nat.add_zero]
  · rw [if_neg (fun h2 => hk (e.mp h2)), if_neg hk]
theorem nl_tie (h : RT AL Y q s) : av_nl q = it (ms_nlS s) 12 0 := by
  unfold av_nl
  refine it_cong 12 ?_
  intro i x hi
  rw [av_nlS, ms_nlS, (h.2.2.2 i hi).1]
  split <;> rfl
theorem in_tie (h : RT AL Y q s) : ∃ p, p < 256 ∧ s 1 = nI p ∧ bcI q.2.1 = nI (pc8 p) := by
  obtain ⟨p, hp, e⟩ := h.1.2.1
  exact ⟨p, by omega, by rw [h.2.2.1, e], by rw [e]; exact bc_pc8 p (by omega)⟩
end TD
-- a gale: the class
def blN (q : AV) (t m : Nat) : Bool := av_hear q t true && (bt (av_any q) m && !(av_k q t m))
theorem Lr_bl (k : Int32) (t : Nat) (x : AV) : Lr t (fun m => bt k m && !(av_k x t m)) x (it (av_blS2 k t) 8 x) := by
  refine Lr_it _ ?_
  intro i y B hi h hB
  have e : av_k y t i = av_k x t i := by
    rw [av_k_bt, av_k_bt, (h.2.2.2.2.2.2.1 i hi).1, hB i hi (Nat.le_refl i), Bool.or_false]
  rw [av_blS2, e]
  rfl
theorem Yr_bl (q : AV) : Yr (blN q) 12 q (av_bl q) := by
  unfold av_bl
  refine it_ind (fun i x => Yr (blN q) i q x) 12 (Yr.rf _ q) ?_
  intro i x hi h
  have eh : av_hear x i true = av_hear q i true := hear_cg h.1 (by rw [h.2.2.1]) (by rw [h.2.2.2.1])
  have ek : ∀ m, av_k x i m = av_k q i m := fun m => by rw [av_k_bt, av_k_bt, h.2.2.2.2.1 i (Nat.le_refl i)]
  rw [av_blS, eh]
  by_cases hh : av_hear q i true = true
  · rw [if_pos hh]
    exact h.st (Lr_bl _ i x) (fun m hm => by rw [blN, hh, ek, Bool.true_and])
  · rw [if_neg hh]
    have h2 : av_hear q i true = false := by simpa using hh
    exact h.st (Lr.rf i x) (fun m hm => by rw [blN, h2, Bool.false_and])
-- the reference
def mbN (s : Nat → Int32) (t m : Nat) : Bool := ms_hear s t true && ((ms_all s).testBit m && !(ms_k s t m))
def sm (F : Nat → Nat) : Nat := it (fun t n => n + F t) 12 0
theorem mhear_cg {s x : Nat → Int32} {t : Nat} {b : Bool} (h0 : x 0 = s 0) (h1 : x (2 + 10 * t) = s (2 + 10 * t)) (h2 : x (2 + 10 * t + 1) = s (2 + 10 * t + 1)) : ms_hear x t b = ms_hear s t b := by
  unfold ms_hear
  rw [h0, h1, h2]
theorem Ls.rf (t : Nat) (s : Nat → Int32) : Ls t (fun _ => false) s s := ⟨fun m _ => by simp, fun _ _ => rfl⟩
theorem cn_cg {B C : Nat → Bool} (h : ∀ m, m < 8 → B m = C m) : cn B = cn C := by
  unfold cn
  exact it_cong 8 (fun i x hi => by rw [h i hi])
theorem cn_f {B : Nat → Bool} (h : ∀ m, m < 8 → B m = false) : cn B = 0 := by
  unfold cn
  exact it_ind (fun _ x => x = 0) 8 rfl (fun i x hi hx => by rw [hx, h i hi]; rfl)
theorem Ym_bl (s : Nat → Int32) : Ym (mbN s) 12 s (ms_bl s).1 ∧ (ms_bl s).2 = sm (fun t => cn (mbN s t)) := by
  unfold ms_bl sm
  have h := it_ind (f := ms_blS (ms_all s)) (a := (s, 0)) (fun i x => Ym (mbN s) i s x.1 ∧ x.2 = it (fun t n => n + cn (mbN s t)) i 0) 12 ⟨Ym.rf _ s, rfl⟩ ?_
  · exact h
  · intro i x hi h
    obtain ⟨h1, h2⟩ := h
    have eh : ms_hear x.1 i true = ms_hear s i true := mhear_cg h1.f0.1 (h1.fk i).1 (h1.fk i).2
    have ek : ∀ m, m < 8 → ms_k x.1 i m = ms_k s i m := fun m hm => ms_k_cg (h1.2 _ (fun t' _ m' _ => by omega))
    rw [it_s, ms_blS, eh]
    by_cases hh : ms_hear s i true = true
    · rw [if_pos hh]
      have hl := ln_ls x.1 i (ms_all s)
      refine ⟨h1.st hl.1 (fun m hm => by rw [mbN, hh, ek m hm, Bool.true_and]), ?_⟩
      show x.2 + (ms_ln x.1 i (ms_all s)).2 = _
      rw [hl.2, h2]
      congr 1
      exact cn_cg (fun m hm => by rw [mbN, hh, ek m hm, Bool.true_and])
    · rw [if_neg hh]
      have h3 : ms_hear s i true = false := by simpa using hh
      refine ⟨h1.st (Ls.rf i x.1) (fun m hm => by rw [mbN, h3, Bool.false_and]), ?_⟩
      rw [h2, cn_f (fun m hm => by rw [mbN, h3, Bool.false_and]), Nat.add_zero]
theorem bl_tie {q : AV} {s : Nat → Int32} {Y : Nat} (h : RT AL Y q s) (hY : Y < 2 ^ 30) : RT AL Y (av_bl q) (ms_bl s).1 := by
  refine ⟨(Yr_bl q).iv h.1, h.2.yr (Yr_bl q) (Ym_bl s).1 (fun t ht m hm _ => ?_)⟩
  rw [mbN, blN, hear_tie h.2 ht, kt2 h hY ht hm, any_tie h hY, bt_nI (by have := all_lt s; omega) (by omega)]
-- how many got to know something
theorem pc_cn : ∀ k, k < 256 → pc8 k = cn (fun m => k.testBit m) := by decide +kernel
theorem all_cn {q : AV} {Y : Nat} (hq : IV Y q) : av_all q = nI (sm (fun t => cn (fun m => av_k q t m))) := by
  unfold av_all sm
  refine it_map (a := 0) nI 12 ?_
  intro i x hi
  obtain ⟨K, hK, e⟩ := (hq.2.2.1 i hi).2.2
  have e2 : cn (fun m => av_k q i m) = pc8 K := by
    rw [pc_cn K (by omega)]
    exact cn_cg (fun m hm => by rw [av_k_bt, e, bt_nI (by omega) (by omega)])
  rw [av_allS, e, bc_pc8 K (by omega), nI_add, ← e2]
theorem cn_or {A B C : Nat → Bool} (h : ∀ m, m < 8 → A m = (B m || C m)) (h2 : ∀ m, m < 8 → C m = true → B m = false) : cn A = cn B + cn C := by
  have h3 : ∀ i, i ≤ 8 → cnI A i = cnI B i + cnI C i := by
    intro i
    induction i with
    | zero => intro _; rfl
    | succ i ih =>
      intro hi
      have e := ih (by omega)
      unfold cnI at e ⊢
      rw [it_s, it_s, it_s, e, h i (by omega)]
      have h4 := h2 i (by omega)
      revert h4
      cases B i <;> cases C i <;> simp <;> omega
  exact h3 8 (Nat.le_refl 8)
theorem sm_add (F G : Nat → Nat) : sm (fun t => F t + G t) = sm F + sm G := by
  have h : ∀ i, it (fun t n => n + (F t + G t)) i 0 = it (fun t n => n + F t) i 0 + it (fun t n => n + G t) i 0 := by
    intro i
    induction i with
    | zero => rfl
    | succ i ih => rw [it_s, it_s, it_s, ih]; omega
  exact h 12
theorem sm_cg {F G : Nat → Nat} (h : ∀ t, t < 12 → F t = G t) : sm F = sm G := by
  unfold sm
  exact it_cong 12 (fun i x hi => by rw [h i hi])
theorem gale_tie {q : AV} {s : Nat → Int32} {Y : Nat} (h : RT AL Y q s) (hY : Y < 2 ^ 30) : av_all (av_bl q) - av_all q = nI (ms_bl s).2 := by
  have hx := Yr_bl q
  rw [all_cn h.1, all_cn (hx.iv h.1), (Ym_bl s).2]
  have e : sm (fun t => cn (fun m => av_k (av_bl q) t m)) = sm (fun t => cn (fun m => av_k q t m)) + sm (fun t => cn (mbN s t)) := by
    rw [← sm_add]
    refine sm_cg (fun t ht => cn_or (fun m hm => ?_) (fun m hm hC => ?_))
    · rw [av_k_bt, ((hx.2.2.2.2.2.2 t ht).1 m hm).1, blN, mbN, hear_tie h.2 ht, kt2 h hY ht hm, any_tie h hY, bt_nI (by have := all_lt s; omega) (by omega), av_k_bt]
    · rw [mbN, kt2 h hY ht hm] at hC
      cases hk : av_k q t m with
      | false => rfl
      | true => rw [hk] at hC; simp at hC
  rw [e, pk_sub (by omega)]
  congr 1
  omega
