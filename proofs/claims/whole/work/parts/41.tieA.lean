/-! ===== class and reference tied: loops, bits ===== -/
theorem it_ind {α : Type} {f : Nat → α → α} {a : α} (P : Nat → α → Prop) (n : Nat) (h0 : P 0 a) (hs : ∀ i x, i < n → P i x → P (i + 1) (f i x)) : P n (it f n a) := by
  have h : ∀ i, i ≤ n → P i (it f i a) := by
    intro i
    induction i with
    | zero => intro _; exact h0
    | succ i ih => intro hi; rw [it_s]; exact hs i _ (by omega) (ih (by omega))
  exact h n (Nat.le_refl n)
theorem it_cong {α : Type} {f g : Nat → α → α} {a : α} (n : Nat) (h : ∀ i x, i < n → f i x = g i x) : it f n a = it g n a := by
  have h2 : ∀ i, i ≤ n → it f i a = it g i a := by
    intro i
    induction i with
    | zero => intro _; rfl
    | succ i ih => intro hi; rw [it_s, it_s, ih (by omega)]; exact h i _ (by omega)
  exact h2 n (Nat.le_refl n)
def bt (x : Int32) (m : Nat) : Bool := decide ((x >>> (nI m &&& 31)) &&& 1 = 1)
theorem av_k_bt (q : AV) (t m : Nat) : av_k q t m = bt (q.2.2.2.2.1 t) m := rfl
theorem bt_l {x : Int32} {m : Nat} (hm : m < 31) : bt x m = x.toBitVec.getLsbD m := by
  have e1 : (x >>> (nI m &&& 31)).toBitVec = x.toBitVec.sshiftRight m := by
    rw [Int32.toBitVec_shiftRight]
    show x.toBitVec.sshiftRight ((nI m &&& 31).toBitVec.smod 32).toNat = _
    rw [sh_smod m hm]
  have e2 := pk_and (x >>> (nI m &&& 31)) (m := 1) 1 (by decide)
  have e3 : x.toBitVec.getLsbD m = decide ((x >>> (nI m &&& 31)).toBitVec.toNat % 2 = 1) := by
    rw [← Nat.testBit_zero, e1]
    show _ = (x.toBitVec.sshiftRight m).getLsbD 0
    rw [BitVec.getLsbD_sshiftRight]
    have : m < 32 := by omega
    simp [this]
  rw [e3, bt, e2]
  have h : (x >>> (nI m &&& 31)).toBitVec.toNat % 2 < 2 := Nat.mod_lt _ (by omega)
  have e4 : (nI ((x >>> (nI m &&& 31)).toBitVec.toNat % 2) = 1) ↔ (x >>> (nI m &&& 31)).toBitVec.toNat % 2 = 1 := nI_eq (b := 1) (by omega) (by omega)
  exact decide_eq_decide.mpr e4
theorem bt_or {x y : Int32} {m : Nat} (hm : m < 31) : bt (x ||| y) m = (bt x m || bt y m) := by
  rw [bt_l hm, bt_l hm, bt_l hm, Int32.toBitVec_or, BitVec.getLsbD_or]
theorem bt_and {x y : Int32} {m : Nat} (hm : m < 31) : bt (x &&& y) m = (bt x m && bt y m) := by
  rw [bt_l hm, bt_l hm, bt_l hm, Int32.toBitVec_and, BitVec.getLsbD_and]
theorem m1_bits : ∀ m, m < 31 → (-1 : Int32).toBitVec.getLsbD m = true := by decide +kernel
theorem bt_not {x : Int32} {m : Nat} (hm : m < 31) : bt (x ^^^ (-1)) m = !(bt x m) := by
  rw [bt_l hm, bt_l hm, Int32.toBitVec_xor, BitVec.getLsbD_xor, m1_bits m hm, Bool.xor_true]
theorem bt_0 : ∀ m, m < 31 → bt 0 m = false := by decide +kernel
theorem bt_1 : ∀ j, j < 8 → ∀ m, m < 8 → bt (1 <<< (nI j &&& 31)) m = decide (j = m) := by decide +kernel
theorem bt_255 : ∀ m, m < 8 → bt 255 m = true := by decide +kernel
theorem bt_nI {k m : Nat} (hk : k < 2 ^ 31) (hm : m < 31) : bt (nI k) m = k.testBit m := by
  cases hb : k.testBit m with
  | true => exact decide_eq_true ((bit_1 hk hm).mpr hb)
  | false => exact decide_eq_false (fun e => by rw [(bit_1 hk hm).mp e] at hb; exact absurd hb (by decide))
def okN (x : Int32) (b : Nat) : Prop := ∃ n, n ≤ b ∧ x = nI n
theorem okN.mono {x : Int32} {a b : Nat} (h : okN x a) (hab : a ≤ b) : okN x b := by
  obtain ⟨n, hn, e⟩ := h
  exact ⟨n, by omega, e⟩
theorem okN_or {x : Int32} {m : Nat} (h : okN x 255) (hm : m < 8) : okN (x ||| (1 <<< (nI m &&& 31))) 255 := by
  obtain ⟨n, hn, rfl⟩ := h
  rw [shl1 m (by omega), nI_or]
  have h2 : 2 ^ m < 2 ^ 8 := Nat.pow_lt_pow_right (by omega) hm
  have h3 : n ||| 2 ^ m < 2 ^ 8 := Nat.or_lt_two_pow (by omega) h2
  exact ⟨_, by omega, rfl⟩
theorem nI_m1 {n : Nat} (h : n < 2 ^ 31) : ¬ nI n = -1 := fun e => nI_pos h (by rw [e]; decide)
/-! ===== a tree learns some messages in this year ===== -/
def Lr (t : Nat) (B : Nat → Bool) (q x : AV) : Prop := x.1 = q.1 ∧ x.2.1 = q.2.1 ∧ x.2.2.1 = q.2.2.1 ∧ x.2.2.2.1 = q.2.2.2.1 ∧ (∀ u, u ≠ t → x.2.2.2.2.1 u = q.2.2.2.2.1 u) ∧ (∀ j, j / 8 ≠ t → x.2.2.2.2.2 j = q.2.2.2.2.2 j) ∧ (∀ m, m < 8 → bt (x.2.2.2.2.1 t) m = (bt (q.2.2.2.2.1 t) m || B m) ∧ x.2.2.2.2.2 (t * 8 + m) = if B m then q.1 else q.2.2.2.2.2 (t * 8 + m)) ∧ (okN (q.2.2.2.2.1 t) 255 → okN (x.2.2.2.2.1 t) 255)
theorem Lr.rf (t : Nat) (q : AV) : Lr t (fun _ => false) q q := ⟨rfl, rfl, rfl, rfl, fun _ _ => rfl, fun _ _ => rfl, fun m _ => ⟨by simp, by simp⟩, id⟩
theorem Lr.cg {t : Nat} {B C : Nat → Bool} {q x : AV} (h : Lr t B q x) (hc : ∀ m, m < 8 → B m = C m) : Lr t C q x := by
  obtain ⟨h1, h2, h3, h4, h5, h6, h7, h8⟩ := h
  exact ⟨h1, h2, h3, h4, h5, h6, fun m hm => by rw [← hc m hm]; exact h7 m hm, h8⟩
theorem Lr.learn {t m : Nat} (hm : m < 8) (q : AV) : Lr t (fun j => decide (j = m)) q (av_learn q t m) := by
  refine ⟨rfl, rfl, rfl, rfl, fun u hu => pk_un hu, fun j hj => pk_un (fun e => hj (by omega)), fun j hj => ⟨?_, ?_⟩, fun h => ?_⟩
  · show bt (upd q.2.2.2.2.1 t (q.2.2.2.2.1 t ||| (1 <<< (nI m &&& 31))) t) j = _
    rw [pk_us, bt_or (by omega), bt_1 m hm j hj]
    congr 1
    exact decide_eq_decide.mpr eq_comm
  · show upd q.2.2.2.2.2 (t * 8 + m) q.1 (t * 8 + j) = _
    by_cases e : j = m
    · subst e; rw [pk_us]; simp
    · rw [pk_un (by omega)]; simp [e]
  · show okN (upd q.2.2.2.2.1 t (q.2.2.2.2.1 t ||| (1 <<< (nI m &&& 31))) t) 255
    rw [pk_us]
    exact okN_or h hm
theorem Lr.tr {t : Nat} {B C : Nat → Bool} {q x y : AV} (h : Lr t B q x) (k : Lr t C x y) : Lr t (fun m => B m || C m) q y := by
  obtain ⟨h1, h2, h3, h4, h5, h6, h7, h8⟩ := h
  obtain ⟨k1, k2, k3, k4, k5, k6, k7, k8⟩ := k
  refine ⟨k1.trans h1, k2.trans h2, k3.trans h3, k4.trans h4, fun u hu => (k5 u hu).trans (h5 u hu), fun j hj => (k6 j hj).trans (h6 j hj), fun m hm => ⟨?_, ?_⟩, fun h => k8 (h8 h)⟩
  · rw [(k7 m hm).1, (h7 m hm).1, Bool.or_assoc]
  · rw [(k7 m hm).2, (h7 m hm).2, h1]
    cases hB : B m <;> cases hC : C m <;> simp [hB, hC]
theorem Lr_it {f : Nat → AV → AV} {t : Nat} {q : AV} (C : Nat → Bool) (hf : ∀ i x B, i < 8 → Lr t B q x → (∀ m, m < 8 → i ≤ m → B m = false) → f i x = if C i then av_learn x t i else x) : Lr t C q (it f 8 q) := by
  refine Lr.cg (it_ind (fun i x => Lr t (fun m => decide (m < i) && C m) q x) 8 ?_ ?_) ?_
  · exact (Lr.rf t q).cg (fun m _ => by simp)
  · intro i x hi h
    rw [hf i x _ hi h (fun m _ h2 => by simp [Nat.not_lt.mpr h2])]
    by_cases hC : C i = true
    · rw [if_pos hC]
      refine (h.tr (Lr.learn hi x)).cg (fun m _ => ?_)
      by_cases e : m = i
      · subst e; simp [hC]
      · have : (m < i + 1) ↔ m < i := by omega
        simp [e, this]
    · rw [if_neg hC]
      refine h.cg (fun m _ => ?_)
      by_cases e : m = i
      · subst e
        have hC2 : C m = false := by simpa using hC
        simp [hC2]
      · have : (m < i + 1) ↔ m < i := by omega
        simp [this]
  · intro m hm; simp [hm]
theorem Lr_tf {t w : Nat} (hw : w ≠ t) (q : AV) (ms wt : Int32) : Lr t (fun m => av_tfB q w ms wt m) q (av_tf q t w ms wt) := by
  unfold av_tf
  refine Lr_it _ ?_
  intro i x B hi h hB
  have e : av_tfB x w ms wt i = av_tfB q w ms wt i := by
    rw [av_tfB, av_tfB, h.1, h.2.2.2.2.2.1 (w * 8 + i) (by omega)]
  rw [av_tfS, e]
theorem hear_cg {q x : AV} {t : Nat} {b : Bool} (h1 : x.1 = q.1) (h3 : x.2.2.1 t = q.2.2.1 t) (h4 : x.2.2.2.1 t = q.2.2.2.1 t) : av_hear x t b = av_hear q t b := by
  unfold av_hear
  rw [h1, h3, h4]
theorem leans_cg {q x : AV} {t : Nat} (h3 : x.2.2.1 t = q.2.2.1 t) (h4 : x.2.2.2.1 t = q.2.2.2.1 t) : av_leans x t = av_leans q t := by
  unfold av_leans av_sap
  rw [h3, h4]
theorem nods_cg {q x : AV} {t : Nat} (h3 : x.2.2.1 t = q.2.2.1 t) (h4 : x.2.2.2.1 t = q.2.2.2.1 t) : av_nods x t = av_nods q t := by
  unfold av_nods
  rw [h3, h4]
def av_tB (q : AV) (w m : Nat) (wt : Int32) : Bool := av_k q w m && !(decide (q.1 - q.2.2.2.2.2 (w * 8 + m) < wt))
def av_nB (q : AV) (mk : Int32) (t m : Nat) : Bool := (bt mk m && !(av_k q t m)) && ((!(decide (t ≤ 1)) && av_hear q t false && av_tB q (t - 2) m (av_leans q (t - 2))) || (av_met q (t / 2) && av_hear q t true && av_tB q (t ^^^ 1) m (av_nods q (t ^^^ 1))))
theorem bt_lt {q : AV} {t m : Nat} {mk : Int32} (h : 2 ≤ t) (hm : m < 8) : bt (av_lt q t mk) m = ((bt mk m && !(av_k q t m)) && av_k q (t - 2) m) := by
  rw [av_lt, if_neg (by omega), av_un, bt_and (by omega), bt_and (by omega), bt_not (by omega)]
  rfl
theorem bt_nd {q : AV} {t m : Nat} {mk : Int32} (h : av_met q (t / 2) = true) (hm : m < 8) : bt (av_nd q t mk) m = ((bt mk m && !(av_k q t m)) && av_k q (t ^^^ 1) m) := by
  rw [av_nd, if_pos h, av_un, bt_and (by omega), bt_and (by omega), bt_not (by omega)]
  rfl
theorem xor1_ne : ∀ t, t < 12 → t ^^^ 1 ≠ t := by decide +kernel
theorem Lr_ls1 (q : AV) (t : Nat) (mk : Int32) : Lr t (fun m => (bt mk m && !(av_k q t m)) && (!(decide (t ≤ 1)) && av_hear q t false && av_tB q (t - 2) m (av_leans q (t - 2)))) q (av_ls1 q t mk) := by
  unfold av_ls1
  by_cases h2 : 2 ≤ t
  · have d1 : decide (t ≤ 1) = false := decide_eq_false (by omega)
    by_cases hc : (!(decide (av_lt q t mk = 0)) && av_hear q t false) = true
    · rw [if_pos hc]
      rw [Bool.and_eq_true] at hc
      refine (Lr_tf (by omega) q _ _).cg (fun m hm => ?_)
      have e : av_tfB q (t - 2) (av_lt q t mk) (av_leans q (t - 2)) m = (bt (av_lt q t mk) m && !(decide (q.1 - q.2.2.2.2.2 ((t - 2) * 8 + m) < av_leans q (t - 2)))) := rfl
      rw [e, bt_lt h2 hm, d1, hc.2, av_tB]
      cases bt mk m <;> cases av_k q t m <;> cases av_k q (t - 2) m <;> simp
    · rw [if_neg hc]
      refine (Lr.rf t q).cg (fun m hm => ?_)
      cases hh : av_hear q t false with
      | false => simp
      | true =>
        rw [hh, Bool.and_true] at hc
        have h0 : av_lt q t mk = 0 := by simpa using hc
        have e := bt_lt (q := q) (mk := mk) h2 hm
        rw [h0, bt_0 m (by omega)] at e
        rw [av_tB]
        revert e
        cases bt mk m <;> cases av_k q t m <;> cases av_k q (t - 2) m <;> simp
  · have h0 : av_lt q t mk = 0 := by rw [av_lt, if_pos (by omega)]
    have hc : ¬ (!(decide (av_lt q t mk = 0)) && av_hear q t false) = true := by simp [h0]
    rw [if_neg hc]
    have d1 : decide (t ≤ 1) = true := decide_eq_true (by omega)
    exact (Lr.rf t q).cg (fun m hm => by simp [d1])
theorem Lr_ls {q : AV} {t : Nat} {mk : Int32} (ht : t < 12) : Lr t (fun m => av_nB q mk t m) q (av_ls q t mk) := by
  have h1 := Lr_ls1 q t mk
  have eh : av_hear (av_ls1 q t mk) t true = av_hear q t true := hear_cg h1.1 (by rw [h1.2.2.1]) (by rw [h1.2.2.2.1])
  have en : av_nods (av_ls1 q t mk) (t ^^^ 1) = av_nods q (t ^^^ 1) := nods_cg (by rw [h1.2.2.1]) (by rw [h1.2.2.2.1])
  have hx := xor1_ne t ht
  unfold av_ls
  rw [eh, en]
  by_cases hc : (!(decide (av_nd q t mk = 0)) && av_hear q t true) = true
  · rw [if_pos hc]
    rw [Bool.and_eq_true] at hc
    have hmet : av_met q (t / 2) = true := by
      cases hm : av_met q (t / 2) with
      | true => rfl
      | false =>
        have h0 : av_nd q t mk = 0 := by rw [av_nd, if_neg (by rw [hm]; decide)]
        exact absurd hc.1 (by simp [h0])
    refine (h1.tr (Lr_tf hx (av_ls1 q t mk) _ _)).cg (fun m hm => ?_)
    have e : av_tfB (av_ls1 q t mk) (t ^^^ 1) (av_nd q t mk) (av_nods q (t ^^^ 1)) m = (bt (av_nd q t mk) m && !(decide (q.1 - q.2.2.2.2.2 ((t ^^^ 1) * 8 + m) < av_nods q (t ^^^ 1)))) := by
      rw [av_tfB, h1.1, h1.2.2.2.2.2.1 ((t ^^^ 1) * 8 + m) (by omega)]
      rfl
    rw [e, bt_nd hmet hm, av_nB, hmet, hc.2]
    simp only [av_tB]
    cases bt mk m <;> cases av_k q t m <;> cases av_k q (t ^^^ 1) m <;> simp
  · rw [if_neg hc]
    refine h1.cg (fun m hm => ?_)
    rw [av_nB]
    cases hh : av_hear q t true with
    | false => simp
    | true =>
      cases hmet : av_met q (t / 2) with
      | false => simp
      | true =>
        rw [hh, Bool.and_true] at hc
        have h0 : av_nd q t mk = 0 := by simpa using hc
        have e := bt_nd (mk := mk) hmet hm
        rw [h0, bt_0 m (by omega)] at e
        simp only [av_tB]
        revert e
        cases bt mk m <;> cases av_k q t m <;> cases av_k q (t ^^^ 1) m <;> simp
