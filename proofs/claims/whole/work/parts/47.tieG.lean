/-! ===== what is asked of a number ===== -/
theorem inI_t (x : Int32) (lo hi : Int64) : inI x lo hi = (!(decide (x.toInt < lo.toInt)) && !(decide (hi.toInt < x.toInt))) := by
  unfold inI inR
  simp only [Int64.lt_iff_toInt_lt, Int32.toInt_toInt64]
theorem cIn_t (n x : Int32) : cIn n x = (!(decide (x.toInt < 0)) && !(decide (n.toInt ≤ x.toInt))) := by
  unfold cIn
  rw [decide_eq_decide.mpr (Int32.lt_iff_toInt_lt (x := x) (y := 0)), decide_eq_decide.mpr (Int32.le_iff_toInt_le (x := n) (y := x))]
  rfl
theorem cIn_in {n x : Int32} {hi : Int64} (e : n.toInt = hi.toInt + 1) : inI x 0 hi = cIn n x := by
  rw [inI_t, cIn_t]
  congr 2
  exact decide_eq_decide.mpr (by omega)
theorem cIn_nat {n x : Int32} {k : Nat} (e : n.toInt = k) (h : cIn n x = true) : ∃ t, t < k ∧ x = nI t := by
  rw [cIn_t, e] at h
  simp only [Bool.and_eq_true, Bool.not_eq_true', decide_eq_false_iff_not] at h
  have h0 : ¬ x < 0 := fun q => h.1 (Int32.lt_iff_toInt_lt.mp q)
  obtain ⟨j, hj, rfl⟩ := nI_of h0
  rw [nI_toInt hj] at h
  exact ⟨j, by omega, rfl⟩
theorem cAg_in (x : Int32) : inI x 0 999 = cAg x := by
  rw [inI_t]
  unfold cAg
  rw [decide_eq_decide.mpr (Int32.lt_iff_toInt_lt (x := x) (y := 0)), decide_eq_decide.mpr (Int32.lt_iff_toInt_lt (x := 999) (y := x))]
  rfl
theorem cAg_nat {x : Int32} (h : cAg x = true) : ∃ t, t < 1000 ∧ x = nI t := by
  unfold cAg at h
  simp only [Bool.and_eq_true, Bool.not_eq_true', decide_eq_false_iff_not] at h
  obtain ⟨j, hj, rfl⟩ := nI_of h.1
  exact ⟨j, Nat.lt_succ_of_le (Nat.not_lt.mp (fun q => h.2 (nI_lt (a := 999) q hj))), rfl⟩
theorem cTo_in {n x : Int32} {hi : Int64} (e : n.toInt = hi.toInt) : inI x 0 hi = cTo n x := by
  rw [inI_t]
  unfold cTo
  simp only [Int32.lt_iff_toInt_lt, Int32.le_iff_toInt_le, e, show (0 : Int64).toInt = 0 by decide, show (0 : Int32).toInt = 0 by decide]
  congr 1
  by_cases h : x.toInt ≤ hi.toInt
  · simp [h, Int.not_lt.mpr h]
  · simp [h, Int.not_le.mp h]
theorem cTo_nat {n x : Int32} {k : Nat} (e : n = nI k) (hk : k < 2 ^ 31) (h : cTo n x = true) : ∃ t, t ≤ k ∧ x = nI t := by
  unfold cTo at h
  simp only [Bool.and_eq_true, Bool.not_eq_true', decide_eq_false_iff_not, decide_eq_true_eq] at h
  obtain ⟨j, hj, rfl⟩ := nI_of h.1
  rw [e] at h
  exact ⟨j, (nI_leI hj hk).mp h.2, rfl⟩
theorem cYe_in {lo x n : Int32} {l h : Int64} (e1 : lo.toInt = l.toInt) (e2 : n.toInt = h.toInt) : inI x l h = (!(decide (x < lo)) && decide (x ≤ n)) := by
  rw [inI_t]
  simp only [Int32.lt_iff_toInt_lt, Int32.le_iff_toInt_le, e1, e2]
  congr 1
  by_cases h2 : x.toInt ≤ h.toInt
  · simp [h2, Int.not_lt.mpr h2]
  · simp [h2, Int.not_le.mp h2]
theorem cYe_nat {x n : Int32} {k : Nat} (e : n = nI k) (hk : k < 2 ^ 31) (h : (!(decide (x < 1)) && decide (x ≤ n)) = true) : ∃ t, 1 ≤ t ∧ t ≤ k ∧ x = nI t := by
  simp only [Bool.and_eq_true, Bool.not_eq_true', decide_eq_false_iff_not, decide_eq_true_eq] at h
  have h0 : ¬ x < 0 := fun q => h.1 (Int32.lt_trans q (by decide))
  obtain ⟨j, hj, rfl⟩ := nI_of h0
  rw [e] at h
  exact ⟨j, Nat.not_lt.mp (fun q => h.1 (nI_lt (b := 1) q (by omega))), (nI_leI hj hk).mp h.2, rfl⟩
theorem und_all : ∀ a, a < 6 → ∀ b, b < 6 → ms_und (nI a) (nI b) = cU (nI a) (nI b) := by decide +kernel
theorem six_cases {y : Int32} {hi : Int64} (h : inI y 0 5 = true) : y = 0 ∨ y = 1 ∨ y = 2 ∨ y = 3 ∨ y = 4 ∨ y = 5 := by
  rw [cIn_in (n := 6) (by decide)] at h
  obtain ⟨t, ht, rfl⟩ := cIn_nat (k := 6) (by decide) h
  match t, ht with
  | 0, _ => exact Or.inl rfl
  | 1, _ => exact Or.inr (Or.inl rfl)
  | 2, _ => exact Or.inr (Or.inr (Or.inl rfl))
  | 3, _ => exact Or.inr (Or.inr (Or.inr (Or.inl rfl)))
  | 4, _ => exact Or.inr (Or.inr (Or.inr (Or.inr (Or.inl rfl))))
  | 5, _ => exact Or.inr (Or.inr (Or.inr (Or.inr (Or.inr rfl))))
  | t + 6, h => exact absurd h (by omega)
/-! ===== sheets, tied ===== -/
def RS (bts szs : Nat → Int32) (nus : Nat → Nat → Int64) (bo szz : Nat → Int32) (nu : Nat → Int64) : Prop := ∀ j, j < 4 → bo j = bts j ∧ szz j = szs j ∧ okN (szs j) 40 ∧ ∀ i, i < 40 → nu (40 * j + i) = nus j i
def upS (nus : Nat → Nat → Int64) (j : Nat) (f : Nat → Int64) : Nat → Nat → Int64 := fun i => if i = j then f else nus i
section TG
variable {q : AV} {s : Nat → Int32} {Y : Nat} {bts szs bo szz : Nat → Int32} {nus : Nat → Nat → Int64} {nu : Nat → Int64}
theorem RS.new (h : RS bts szs nus bo szz nu) {sh z : Nat} {b : Int32} (hsh : sh < 4) (hz : z ≤ 40) : RS (upd bts sh b) (upd szs sh (if b = 0 then 0 else nI z)) (upS nus sh (fun _ => 0)) (upd bo sh b) (upd szz sh (if b = 0 then 0 else nI z)) (ptN (40 * sh) 40 (fun _ => 0) nu) := by
  intro j hj
  obtain ⟨h1, h2, h3, h4⟩ := h j hj
  by_cases e : j = sh
  · subst e
    refine ⟨by rw [pk_us, pk_us], by rw [pk_us, pk_us], ?_, fun i hi => ?_⟩
    · rw [pk_us]
      split
      · exact ⟨0, by omega, rfl⟩
      · exact ⟨z, hz, rfl⟩
    · rw [ptN, if_pos ⟨by omega, by omega⟩, upS, if_pos rfl]
  · refine ⟨by rw [pk_un e, pk_un e]; exact h1, by rw [pk_un e, pk_un e]; exact h2, by rw [pk_un e]; exact h3, fun i hi => ?_⟩
    rw [ptN, if_neg (by omega), upS, if_neg e]
    exact h4 i hi
theorem RS.put (h : RS bts szs nus bo szz nu) {sh i : Nat} {v : Int64} (hsh : sh < 4) (hi : i < 40) : RS bts szs (upS nus sh (vp_updL (nus sh) i (nrw (bts sh) v))) bo szz (vp_updL nu (40 * sh + i) (nrw (bo sh) v)) := by
  intro j hj
  obtain ⟨h1, h2, h3, h4⟩ := h j hj
  refine ⟨h1, h2, h3, fun k hk => ?_⟩
  by_cases e : j = sh
  · subst e
    rw [upS, if_pos rfl, h1]
    by_cases e2 : k = i
    · subst e2; rw [pk_uLs, pk_uLs]
    · rw [pk_uLn (by omega), pk_uLn e2]; exact h4 k hk
  · rw [pk_uLn (by omega), upS, if_neg e]; exact h4 k hk
theorem RS.cpy (h : RS bts szs nus bo szz nu) {a b f g k : Nat} (ha : a < 4) (hb : b < 4) (hf : f + k ≤ 40) (hg : g + k ≤ 40) : RS bts szs (upS nus b (va_cpy (nus a) (nus b) f g k)) bo szz (ptN (40 * b + g) k (shL nu (40 * a + f)) nu) := by
  intro j hj
  obtain ⟨h1, h2, h3, h4⟩ := h j hj
  refine ⟨h1, h2, h3, fun i hi => ?_⟩
  by_cases e : j = b
  · subst e
    rw [upS, if_pos rfl]
    by_cases hin : g ≤ i ∧ i < g + k
    · rw [ptN, if_pos (by omega), pk_cpy_in hin.1 hin.2, shL, ← (h a ha).2.2.2 (f + (i - g)) (by omega)]
      congr 1; omega
    · rw [ptN, if_neg (by omega), pk_cpy_out (by omega)]; exact h4 i hi
  · rw [ptN, if_neg (by omega), upS, if_neg e]; exact h4 i hi
theorem RS.bk (h : RS bts szs nus bo szz nu) {sh z t : Nat} (hsh : sh < 4) (hz : z ≤ 40) (ht : t < 12) (hr : RT AL Y q s) (hY : Y ≤ 20000) : RS bts szs (upS nus sh (cpL z (cBkF (bts sh) q t) (nus sh))) bo szz (ptN (40 * sh) z (ms_bkF (bo sh) s t) nu) := by
  intro j hj
  obtain ⟨h1, h2, h3, h4⟩ := h j hj
  refine ⟨h1, h2, h3, fun i hi => ?_⟩
  by_cases e : j = sh
  · subst e
    rw [upS, if_pos rfl]
    by_cases hin : i < z
    · have r1 := hr.ys al_bit i (by omega)
      rw [ptN, if_pos (by omega), cpL_in hin, ms_bkF, cBkF, h1, kb_tie r1 (by omega) ht, nI_l (by have := kb_lt (ms_ys i s) t; omega), show 40 * j + i - 40 * j = i by omega]
    · rw [ptN, if_neg (by omega), cpL, if_neg hin]; exact h4 i hi
  · rw [ptN, if_neg (by omega), upS, if_neg e]; exact h4 i hi
theorem ly_tie {nuC : Nat → Int64} {a z : Nat} (h : ∀ i, i < 40 → nu (a + i) = nuC i) (hr : RT AL Y q s) (hz : z ≤ 12) : RT AL Y (it (cLyS nuC) z (q, 0)).1 (it (ms_lyS nu a) z s) ∧ (it (cLyS nuC) z (q, 0)).2 = it (ms_lyN nu a) z 0 ∧ (it (cLyS nuC) z (q, 0)).1.1 = q.1 := by
  have h2 : ∀ i, i ≤ z → RT AL Y (it (cLyS nuC) i (q, 0)).1 (it (ms_lyS nu a) i s) ∧ (it (cLyS nuC) i (q, 0)).2 = it (ms_lyN nu a) i 0 ∧ (it (cLyS nuC) i (q, 0)).1.1 = q.1 := by
    intro i
    induction i with
    | zero => intro _; exact ⟨hr, rfl, rfl⟩
    | succ i ih =>
      intro hi
      obtain ⟨r1, r2, r3⟩ := ih (by omega)
      rw [it_s, it_s, it_s, cLyS, ms_lyS, ms_lyN, ms_lyV, h i (by omega), r2]
      have eB : cLyB (nuC i) = inR (nuC i) 0 999 := rfl
      rw [eB]
      by_cases hc : inR (nuC i) 0 999 = true
      · rw [if_pos hc, if_pos hc, if_pos hc]
        refine ⟨aged_tie r1 (by omega) ?_, rfl, r3⟩
        unfold inR at hc
        simp only [Bool.and_eq_true, Bool.not_eq_true', decide_eq_false_iff_not] at hc
        obtain ⟨k, hk, e⟩ := pk_lOf hc.1
        rw [e] at hc ⊢
        rw [lN_i]
        exact ⟨k, Nat.not_lt.mp (fun q => hc.2 ((pk_lLT (a := 999) (by omega) hk).mpr q)), rfl⟩
      · rw [if_neg hc, if_neg hc, if_neg hc, updS]
        exact ⟨r1, r2, r3⟩
  exact h2 z (Nat.le_refl z)
theorem it_nest {α : Type} (F : Nat → Nat → α → α) (a : α) : ∀ n, it (fun p => F (p / 6) (p % 6)) (6 * n) a = it (fun k x => it (F k) 6 x) n a := by
  intro n
  induction n with
  | zero => rfl
  | succ n ih =>
    rw [it_s, ← ih]
    have e : 6 * (n + 1) = 6 * n + 1 + 1 + 1 + 1 + 1 + 1 := by omega
    rw [e, it_s, it_s, it_s, it_s, it_s, it_s, show (6 : Nat) = 0 + 1 + 1 + 1 + 1 + 1 + 1 from rfl, it_s, it_s, it_s, it_s, it_s, it_s, it_0]
    simp only [Nat.zero_add]
    rw [show (6 * n + 1 + 1 + 1 + 1 + 1) / (5 + 1) = n by omega, show (6 * n + 1 + 1 + 1 + 1 + 1) % (5 + 1) = 5 by omega, show (6 * n + 1 + 1 + 1 + 1) / (5 + 1) = n by omega, show (6 * n + 1 + 1 + 1 + 1) % (5 + 1) = 4 by omega, show (6 * n + 1 + 1 + 1) / (5 + 1) = n by omega, show (6 * n + 1 + 1 + 1) % (5 + 1) = 3 by omega, show (6 * n + 1 + 1) / (5 + 1) = n by omega, show (6 * n + 1 + 1) % (5 + 1) = 2 by omega, show (6 * n + 1) / (5 + 1) = n by omega, show (6 * n + 1) % (5 + 1) = 1 by omega, show (6 * n) / (5 + 1) = n by omega, show (6 * n) % (5 + 1) = 0 by omega]
theorem rd_tie {nuC : Nat → Int64} {a z t : Nat} (h : ∀ i, i < 40 → nu (a + i) = nuC i) (hr : RT AL Y q s) (hY : Y ≤ 20000) (hz : z ≤ 40) (ht : t < 12) : ms_rd nu a z s t = cRd nuC z q t := by
  unfold ms_rd cRd
  refine ff_cong z 0 (fun i _ hi => ?_)
  have r1 := hr.ys al_bit i (by omega)
  unfold ms_rdP cRdP
  rw [h i (by omega), kb_tie r1 (by omega) ht, nI_l (by have := kb_lt (ms_ys i s) t; omega)]
theorem rd_tie2 {nuC : Nat → Int64} {a z t u : Nat} {tr : AV} {ge : Nat → Int32} (h : ∀ i, i < 40 → nu (a + i) = nuC i) (hr : RT AL Y q s) (hY : Y ≤ 20000) (hz : z ≤ 40) (ht : t < 12) (hu : u < 12) : (it (cRdO nuC z q t u) 6 (0, tr)).1 = (it (ms_rdS nu a z s t u) 36 (0, ge)).1 := by
  have e1 : it (cRdO nuC z q t u) 6 (0, tr) = it (fun p => cRdS nuC z q t u (p / 6) (p % 6)) 36 (0, tr) := (it_nest (fun k1 k2 x => cRdS nuC z q t u k1 k2 x) (0, tr) 6).symm
  rw [e1]
  refine it_rel (fun (x : Nat × AV) (y : Nat × (Nat → Int32)) => x.1 = y.1) 36 rfl ?_
  intro i x y hi hxy
  have r1 : RT AL Y (cRdZ q t u (i / 6) (i % 6)) (ms_rdZ s t u i) := kind_tie (kind_tie hr ht ⟨i / 6, by omega, rfl⟩) hu ⟨i % 6, by omega, rfl⟩
  show (if z ≤ cRd nuC z (cRdZ q t u (i / 6) (i % 6)) t then x.1 + 1 else x.1) = y.1 + (if z ≤ ms_rd nu a z (ms_rdZ s t u i) t then 1 else 0)
  rw [rd_tie h r1 hY hz ht, hxy]
  split <;> rfl
end TG
/-! ===== the tape ===== -/
def BY (b a : Int32) : Prop := ∃ k, k < 256 ∧ a = nI k ∧ b = (nI k).toInt8.toInt32
theorem by_and (x : Int32) : BY x.toInt8.toInt32 (x &&& 255) := by
  refine ⟨x.toBitVec.toNat % 256, Nat.mod_lt _ (by omega), pk_and x 8 (by decide), ?_⟩
  congr 1
  apply Int8.toBitVec_inj.mp
  show x.toBitVec.signExtend 8 = (BitVec.ofNat 32 (x.toBitVec.toNat % 256)).signExtend 8
  rw [BitVec.signExtend_eq_setWidth_of_le _ (by omega), BitVec.signExtend_eq_setWidth_of_le _ (by omega)]
  apply BitVec.eq_of_toNat_eq
  simp only [BitVec.toNat_setWidth, BitVec.toNat_ofNat]
  omega
theorem fe_tie {by8 tap : Nat → Int32} {c n : Nat} {b : Int32} (h : ∀ j, j < c → BY (by8 j) (tap j)) : ∀ j, j < c + n → BY (it (cFeS b n c) n by8 j) (it (ms_feS b n c) n tap j) := by
  have h2 : ∀ i, i ≤ n → ∀ j, j < c + i → BY (it (cFeS b n c) i by8 j) (it (ms_feS b n c) i tap j) := by
    intro i
    induction i with
    | zero => intro _; exact h
    | succ i ih =>
      intro hi j hj
      rw [it_s, it_s, cFeS, ms_feS]
      by_cases e : j = c + i
      · subst e
        rw [pk_us, pk_us, pk_vb]
        exact by_and _
      · rw [pk_un e, pk_un e]
        exact ih (by omega) j (by omega)
  exact h2 n (Nat.le_refl n)
theorem st_tie (f : Nat → Int32) : ∀ w, w < 7 → it (ms_stO f w) 7 0 = f w := by
  intro w hw
  have h : it (ms_stO f w) 7 0 = if w < 7 then f w else 0 := by
    refine it_ind (fun i x => x = if w < i then f w else 0) 7 (by rw [if_neg (by omega)]) ?_
    intro i x hi hx
    rw [ms_stO, hx]
    by_cases e : i = w
    · subst e; rw [if_neg (by omega), if_pos rfl, if_pos (by omega), Int32.zero_add]
    · rw [if_neg e, Int32.add_zero]
      have : (w < i + 1) ↔ w < i := by omega
      simp only [this]
  rw [h, if_pos hw]
