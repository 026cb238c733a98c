/-! ===== what a call changes, tied ===== -/
theorem okN_and {x y : Int32} {b : Nat} (hb : b < 2 ^ 31) (h : okN x b) : okN (x &&& y) b := by
  obtain ⟨n, hn, rfl⟩ := h
  refine ⟨n &&& y.toBitVec.toNat, Nat.le_trans Nat.and_le_left hn, ?_⟩
  apply Int32.toBitVec_inj.mp
  rw [Int32.toBitVec_and]
  show BitVec.ofNat 32 n &&& y.toBitVec = BitVec.ofNat 32 (n &&& y.toBitVec.toNat)
  apply BitVec.eq_of_getLsbD_eq
  intro i hi
  simp [BitVec.getLsbD_ofNat, hi]
theorem okN_or6 {x : Int32} {m : Nat} (h : okN x 63) (hm : m < 6) : okN (x ||| (1 <<< (nI m &&& 31))) 63 := by
  obtain ⟨n, hn, rfl⟩ := h
  rw [shl1 m (by omega), nI_or]
  have h2 : 2 ^ m < 2 ^ 6 := Nat.pow_lt_pow_right (by omega) hm
  have h3 : n ||| 2 ^ m < 2 ^ 6 := Nat.or_lt_two_pow (by omega) h2
  exact ⟨_, by omega, rfl⟩
theorem Lr.yr {t : Nat} {C : Nat → Bool} {q x : AV} (h : Lr t C q x) (ht : t < 12) : Yr (fun u m => decide (u = t) && C m) 12 q x := by
  obtain ⟨h1, h2, h3, h4, h5, h6, h7, h8⟩ := h
  refine ⟨h1, h2, h3, h4, fun u hu => h5 u (by omega), fun j hj => h6 j (by omega), fun u hu => ?_⟩
  by_cases e : u = t
  · subst e
    refine ⟨fun m hm => ?_, h8⟩
    simpa using h7 m hm
  · refine ⟨fun m hm => ⟨?_, ?_⟩, fun ho => by rw [h5 u e]; exact ho⟩
    · rw [h5 u e]; simp [e]
    · rw [h6 (u * 8 + m) (by omega)]; simp [e]
theorem Ls.ym {t : Nat} {C : Nat → Bool} {s x : Nat → Int32} (h : Ls t C s x) (ht : t < 12) : Ym (fun u m => decide (u = t) && C m) 12 s x := by
  refine ⟨fun u hu m hm => ?_, fun j hj => h.2 j (fun m hm => hj t ht m hm)⟩
  by_cases e : u = t
  · subst e
    simpa using h.1 m hm
  · rw [h.2 _ (fun m' _ => by omega)]; simp [e]
theorem Ls.one {t m : Nat} (hm : m < 8) (s : Nat → Int32) : Ls t (fun j => decide (j = m)) s (upd s (2 + 10 * t + (2 + m)) (s 0)) := by
  refine ⟨fun j hj => ?_, fun j hj => pk_un (hj m hm)⟩
  by_cases e : j = m
  · subst e; rw [pk_us]; simp
  · rw [pk_un (by omega)]; simp [e]
section TE
variable {q : AV} {s : Nat → Int32} {Y : Nat}
theorem learn_tie (h : RT AL Y q s) {t m : Nat} (ht : t < 12) (hm : m < 8) : RT AL Y (av_learn q t m) (upd s (2 + 10 * t + (2 + m)) (s 0)) :=
  ⟨((Lr.learn hm q).yr ht).iv h.1, h.2.yr ((Lr.learn hm q).yr ht) ((Ls.one hm s).ym ht) (fun _ _ _ _ _ => rfl)⟩
theorem ln_tie (h : RT AL Y q s) (hY : Y < 2 ^ 30) {t m : Nat} (ht : t < 12) (hm : m < 8) : RT AL Y (if av_k q t m then q else av_learn q t m) (ms_ln s t (2 ^ m)).1 := by
  have hl := ((ln_ls s t (2 ^ m)).1).ym ht
  by_cases hk : av_k q t m = true
  · rw [if_pos hk]
    refine ⟨h.1, h.2.yr ((Lr.rf t q).yr ht) hl (fun u hu j hj _ => ?_)⟩
    by_cases e : u = t
    · subst e
      by_cases e2 : j = m
      · subst e2; simp [kt2 h hY ht hm, hk]
      · have e3 : ¬ m = j := fun e => e2 e.symm
        simp [Nat.testBit_two_pow, e3]
    · simp [e]
  · rw [if_neg hk]
    have hk2 : av_k q t m = false := by simpa using hk
    refine ⟨((Lr.learn hm q).yr ht).iv h.1, h.2.yr ((Lr.learn hm q).yr ht) hl (fun u hu j hj _ => ?_)⟩
    by_cases e : u = t
    · subst e
      by_cases e2 : j = m
      · subst e2; simp [kt2 h hY ht hm, hk2, Nat.testBit_two_pow]
      · have e3 : ¬ m = j := fun e => e2 e.symm
        simp [Nat.testBit_two_pow, e3, e2]
    · simp [e]
theorem lose_tie (h : RT AL Y q s) {t m : Nat} (ht : t < 12) (hm : m < 8) : RT AL Y (av_lose q t m) (upd s (2 + 10 * t + (2 + m)) (-1)) := by
  obtain ⟨⟨q1, q2, q3, q4⟩, h1, h2, h3⟩ := h
  refine ⟨⟨q1, q2, fun u hu => ⟨(q3 u hu).1, (q3 u hu).2.1, ?_⟩, q4⟩, ?_, ?_, fun u hu => ⟨?_, ?_, fun j hj _ => ?_⟩⟩
  · show okN (upd q.2.2.2.2.1 t (q.2.2.2.2.1 t &&& ((1 <<< (nI m &&& 31)) ^^^ (-1))) u) 255
    by_cases e : u = t
    · subst e; rw [pk_us]; exact okN_and (by omega) (q3 u hu).2.2
    · rw [pk_un e]; exact (q3 u hu).2.2
  · rw [pk_un (by omega)]; exact h1
  · rw [pk_un (by omega)]; exact h2
  · rw [pk_un (by omega)]; exact (h3 u hu).1
  · rw [pk_un (by omega)]; exact (h3 u hu).2.1
  · have ek : av_k (av_lose q t m) u j = (av_k q u j && !(decide (u = t ∧ j = m))) := by
      show bt (upd q.2.2.2.2.1 t (q.2.2.2.2.1 t &&& ((1 <<< (nI m &&& 31)) ^^^ (-1))) u) j = _
      by_cases e : u = t
      · subst e
        rw [pk_us, bt_and (by omega), bt_not (by omega), bt_1 m hm j hj]
        have : (m = j) ↔ (j = m) := eq_comm
        simp [av_k_bt, this]
      · rw [pk_un e]; simp [e, av_k_bt]
    unfold sn
    rw [ek]
    by_cases e : u = t ∧ j = m
    · obtain ⟨rfl, rfl⟩ := e
      rw [pk_us]; simp
    · rw [pk_un (by omega), (h3 u hu).2.2 j hj trivial, sn]
      simp [e]
      rfl
theorem fg_tie (h : RT AL Y q s) {m : Nat} (hm : m < 8) : RT AL Y (av_fg q m) (ms_fg s m) := by
  have h2 : ∀ i, i ≤ 12 → RT AL Y (it (av_fgS m) i q) (it (ms_fgS m) i s) := by
    intro i
    induction i with
    | zero => intro _; exact h
    | succ i ih => intro hi; rw [it_s, it_s]; exact lose_tie (ih (by omega)) (by omega) hm
  exact h2 12 (by omega)
theorem setI_tie (h : RT AL Y q s) {p : Nat} (hp : p < 6) (b : Bool) : RT AL Y (av_setI q p b) (ms_meets s p b) := by
  obtain ⟨⟨q1, q2, q3, q4⟩, h1, h2, h3⟩ := h
  refine ⟨⟨q1, ?_, q3, q4⟩, ?_, ?_, fun u hu => ⟨?_, ?_, fun j hj _ => ?_⟩⟩
  · cases b with
    | true => exact okN_or6 q2 hp
    | false => exact okN_and (by omega) q2
  · unfold ms_meets; rw [pk_un (by omega)]; exact h1
  · unfold ms_meets; rw [pk_us, h2]; rfl
  · unfold ms_meets; rw [pk_un (by omega)]; exact (h3 u hu).1
  · unfold ms_meets; rw [pk_un (by omega)]; exact (h3 u hu).2.1
  · unfold ms_meets; rw [pk_un (by omega)]; exact (h3 u hu).2.2 j hj trivial
theorem kind_tie (h : RT AL Y q s) {t : Nat} {k : Int32} (ht : t < 12) (hk : okN k 5) : RT AL Y (av_kind q t k) (upd s (2 + 10 * t) k) := by
  obtain ⟨⟨q1, q2, q3, q4⟩, h1, h2, h3⟩ := h
  refine ⟨⟨q1, q2, fun u hu => ⟨?_, (q3 u hu).2⟩, q4⟩, ?_, ?_, fun u hu => ⟨?_, ?_, fun j hj _ => ?_⟩⟩
  · show okN (upd q.2.2.1 t k u) 5
    by_cases e : u = t
    · subst e; rw [pk_us]; exact hk
    · rw [pk_un e]; exact (q3 u hu).1
  · rw [pk_un (by omega)]; exact h1
  · rw [pk_un (by omega)]; exact h2
  · show upd s (2 + 10 * t) k (2 + 10 * u) = upd q.2.2.1 t k u
    by_cases e : u = t
    · subst e; rw [pk_us, pk_us]
    · rw [pk_un e, pk_un (by omega)]; exact (h3 u hu).1
  · rw [pk_un (by omega)]; exact ⟨Or.inr ((h3 u hu).2.1.2 trivial), fun _ => (h3 u hu).2.1.2 trivial⟩
  · rw [pk_un (by omega)]; exact (h3 u hu).2.2 j hj trivial
theorem aged_tie (h : RT AL Y q s) {t : Nat} {k : Int32} (ht : t < 12) (hk : okN k 999) : RT AL Y (av_aged q t k) (upd s (2 + 10 * t + 1) k) := by
  obtain ⟨⟨q1, q2, q3, q4⟩, h1, h2, h3⟩ := h
  refine ⟨⟨q1, q2, fun u hu => ⟨(q3 u hu).1, ?_, (q3 u hu).2.2⟩, q4⟩, ?_, ?_, fun u hu => ⟨?_, ?_, fun j hj _ => ?_⟩⟩
  · show okN (upd q.2.2.2.1 t k u) 999
    by_cases e : u = t
    · subst e; rw [pk_us]; exact hk
    · rw [pk_un e]; exact (q3 u hu).2.1
  · rw [pk_un (by omega)]; exact h1
  · rw [pk_un (by omega)]; exact h2
  · rw [pk_un (by omega)]; exact (h3 u hu).1
  · have e2 : upd s (2 + 10 * t + 1) k (2 + 10 * u + 1) = upd q.2.2.2.1 t k u := by
      by_cases e : u = t
      · subst e; rw [pk_us, pk_us]
      · rw [pk_un e, pk_un (by omega)]; exact (h3 u hu).2.1.2 trivial
    exact ⟨Or.inr e2, fun _ => e2⟩
  · rw [pk_un (by omega)]; exact (h3 u hu).2.2 j hj trivial
theorem sets_i (s : Nat → Int32) (t : Nat) : ∀ i, i ≤ 8 → (∀ m, m < 8 → it (ms_setS t) i s (2 + 10 * t + (2 + m)) = if m < i then -1 else s (2 + 10 * t + (2 + m))) ∧ ∀ j, (∀ m, m < 8 → j ≠ 2 + 10 * t + (2 + m)) → it (ms_setS t) i s j = s j := by
  intro i
  induction i with
  | zero => intro _; exact ⟨fun m _ => by rw [it_0, if_neg (by omega)], fun j _ => rfl⟩
  | succ i ih =>
    intro hi
    obtain ⟨h1, h2⟩ := ih (by omega)
    rw [it_s, ms_setS]
    refine ⟨fun m hm => ?_, fun j hj => by rw [pk_un (hj i (by omega)), h2 j hj]⟩
    by_cases e : m = i
    · subst e; rw [pk_us, if_pos (by omega)]
    · rw [pk_un (by omega), h1 m hm]
      have : (m < i + 1) ↔ m < i := by omega
      simp only [this]
theorem sn_anew {t : Nat} {k a : Int32} (u m : Nat) (hm : m < 8) : sn (av_anew q t k a) u m = if u = t then -1 else sn q u m := by
  unfold sn
  have ek : av_k (av_anew q t k a) u m = if u = t then false else av_k q u m := by
    show bt (upd q.2.2.2.2.1 t 0 u) m = _
    by_cases e : u = t
    · subst e; rw [pk_us, bt_0 m (by omega), if_pos rfl]
    · rw [pk_un e, if_neg e]; rfl
  rw [ek]
  by_cases e : u = t
  · rw [if_pos e, if_pos e]; rfl
  · rw [if_neg e, if_neg e]; rfl
theorem anew_iv {t : Nat} {k a : Int32} (h : IV Y q) (hk : okN k 5) (ha : okN a 999) : IV Y (av_anew q t k a) := by
  obtain ⟨q1, q2, q3, q4⟩ := h
  refine ⟨q1, q2, fun u hu => ⟨?_, ?_, ?_⟩, q4⟩
  · show okN (upd q.2.2.1 t k u) 5
    by_cases e : u = t
    · subst e; rw [pk_us]; exact hk
    · rw [pk_un e]; exact (q3 u hu).1
  · show okN (upd q.2.2.2.1 t a u) 999
    by_cases e : u = t
    · subst e; rw [pk_us]; exact ha
    · rw [pk_un e]; exact (q3 u hu).2.1
  · show okN (upd q.2.2.2.2.1 t 0 u) 255
    by_cases e : u = t
    · subst e; rw [pk_us]; exact ⟨0, by omega, rfl⟩
    · rw [pk_un e]; exact (q3 u hu).2.2
theorem anew_tie (h : RT AL Y q s) {t : Nat} {k a : Int32} (ht : t < 12) (hk : okN k 5) (ha : okN a 999) : RT AL Y (av_anew q t k a) (ms_sets s t k a) := by
  obtain ⟨hi, h1, h2, h3⟩ := h
  have hs := sets_i (upd (upd s (2 + 10 * t) k) (2 + 10 * t + 1) a) t 8 (Nat.le_refl 8)
  unfold ms_sets
  refine ⟨anew_iv hi hk ha, ?_, ?_, fun u hu => ⟨?_, ?_, fun j hj _ => ?_⟩⟩
  · rw [hs.2 0 (fun m _ => by omega), pk_un (by omega), pk_un (by omega)]; exact h1
  · rw [hs.2 1 (fun m _ => by omega), pk_un (by omega), pk_un (by omega)]; exact h2
  · rw [hs.2 _ (fun m _ => by omega), pk_un (by omega)]
    show _ = upd q.2.2.1 t k u
    by_cases e : u = t
    · subst e; rw [pk_us, pk_us]
    · rw [pk_un e, pk_un (by omega)]; exact (h3 u hu).1
  · have e2 : it (ms_setS t) 8 (upd (upd s (2 + 10 * t) k) (2 + 10 * t + 1) a) (2 + 10 * u + 1) = upd q.2.2.2.1 t a u := by
      rw [hs.2 _ (fun m _ => by omega)]
      by_cases e : u = t
      · subst e; rw [pk_us, pk_us]
      · rw [pk_un e, pk_un (by omega), pk_un (by omega)]; exact (h3 u hu).2.1.2 trivial
    exact ⟨Or.inr e2, fun _ => e2⟩
  · rw [sn_anew u j hj]
    by_cases e : u = t
    · subst e; rw [hs.1 j hj, if_pos hj, if_pos rfl]
    · rw [hs.2 _ (fun m _ => by omega), pk_un (by omega), pk_un (by omega), if_neg e]; exact (h3 u hu).2.2 j hj trivial
/-- a tree felled: for one message the reference takes its kind and what it knows of it alone -/
theorem stump_tie (h : RT AL Y q s) {t m : Nat} (ht : t < 12) (hm : m < 8) : RT (fun j => j = m) Y (av_anew q t 3 0) (ms_neZ s m t) := by
  obtain ⟨hi, h1, h2, h3⟩ := h
  unfold ms_neZ
  refine ⟨anew_iv hi ⟨3, by omega, rfl⟩ ⟨0, by omega, rfl⟩, ?_, ?_, fun u hu => ⟨?_, ⟨?_, fun e => absurd e (by omega)⟩, fun j hj hM => ?_⟩⟩
  · rw [pk_un (by omega), pk_un (by omega)]; exact h1
  · rw [pk_un (by omega), pk_un (by omega)]; exact h2
  · rw [pk_un (by omega)]
    show _ = upd q.2.2.1 t 3 u
    by_cases e : u = t
    · subst e; rw [pk_us, pk_us]
    · rw [pk_un e, pk_un (by omega)]; exact (h3 u hu).1
  · by_cases e : u = t
    · subst e; exact Or.inl pk_us
    · refine Or.inr ?_
      rw [pk_un (by omega), pk_un (by omega)]
      show _ = upd q.2.2.2.1 t 0 u
      rw [pk_un e]; exact (h3 u hu).2.1.2 trivial
  · subst hM
    rw [sn_anew u j hj]
    by_cases e : u = t
    · subst e; rw [pk_us, if_pos rfl]
    · rw [pk_un (by omega), pk_un (by omega), if_neg e]; exact (h3 u hu).2.2 j hj trivial
end TE
