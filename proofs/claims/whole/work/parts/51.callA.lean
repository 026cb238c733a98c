/-! ===== the calls of the law ===== -/
theorem fr_all {α : Type} {ws : List α} : ∀ {is : List Nat}, (∀ i ∈ is, i < ws.length) → is.map (fun i => ws[i]?) = (is.filterMap (fun i => ws[i]?)).map some
  | [], _ => rfl
  | i :: is, h => by
    have h1 : ws[i]? = some (ws[i]'(h i List.mem_cons_self)) := List.getElem?_eq_getElem _
    rw [List.map_cons, List.filterMap_cons, h1, fr_all (fun j hj => h j (List.mem_cons_of_mem _ hj))]
    rfl
theorem CI.frm {l : Launch} {y : MethodName} {wy : List Cond} {rm : Room} {E : EV} {av : List Value} {wc w1 w0 wf : va_W} {r : Int32} (h : CI l y wy rm E av wc w1 r) (isC isR pm : List Nat) (hC : isC.map (fun i => w0[i]?) = wc.map some) (n : Nat) (hn : w0.length = n) (hR : ∀ i ∈ isR, i < n) (hd : va_nd isC = true ∧ va_nd isR = true ∧ va_nd pm = true ∧ ∀ i ∈ isR, i ∉ isC) (hp : pm.map (fun i => (isR.filterMap (fun i => w0[i]?) ++ w1)[i]?) = wf.map some) : CI l y wy rm E av w0 wf r := CI.frame h isC isR pm ⟨hC, fr_all (fun i hi => by rw [hn]; exact hR i hi), hd, hp⟩
theorem CL.frm {l : Launch} {y : MethodName} {wy : List Cond} {rm : Room} {E : EV} {av : List Value} {wc w1 w0 wf : va_W} {r : Int64} (h : CL l y wy rm E av wc w1 r) (isC isR pm : List Nat) (hC : isC.map (fun i => w0[i]?) = wc.map some) (n : Nat) (hn : w0.length = n) (hR : ∀ i ∈ isR, i < n) (hd : va_nd isC = true ∧ va_nd isR = true ∧ va_nd pm = true ∧ ∀ i ∈ isR, i ∉ isC) (hp : pm.map (fun i => (isR.filterMap (fun i => w0[i]?) ++ w1)[i]?) = wf.map some) : CL l y wy rm E av w0 wf r := CL.frame h isC isR pm ⟨hC, fr_all (fun i hi => by rw [hn]; exact hR i hi), hd, hp⟩
theorem fg_one (q : AV) (m : Nat) : (av_fg q m).1 = q.1 := by
  unfold av_fg
  exact it_ind (fun _ (x : AV) => x.1 = q.1) 12 rfl (fun i x _ h => h)
theorem neg_all : ∀ a, a < 121 → -1 - nI a < 0 := by decide +kernel
theorem upd_sz {f : Nat → Int32} {j n : Nat} (h : f j = nI n) : upd f j (nI n) = f := by rw [← h]; exact updS f j
theorem four_cases {j : Nat} (h : j < 4) : j = 0 ∨ j = 1 ∨ j = 2 ∨ j = 3 := by omega
theorem wr_in {i : Int32} {n : Nat} (hn : n ≤ 40) : inR i.toInt64 0 (nI n - 1).toInt64 = (!(decide (i < 0)) && decide (i < nI n)) := by
  have e : (nI n - 1).toInt = (n : Int) - 1 := pk_sub_toInt (b := 1) (by omega) (by omega)
  have e1 : (!decide ((n : Int) - 1 < i.toInt)) = decide (i.toInt < (n : Int)) := by
    by_cases h : i.toInt < (n : Int)
    · rw [decide_eq_true h, decide_eq_false (by omega)]; rfl
    · rw [decide_eq_false h, decide_eq_true (by omega)]; rfl
  show inI i 0 (nI n - 1).toInt64 = _
  rw [inI_t]
  simp only [Int32.lt_iff_toInt_lt, Int32.toInt_toInt64, e, nI_toInt (show n < 2 ^ 31 by omega), e1]
  rfl
theorem wr_nat {y : Int32} {n : Nat} (hn : n ≤ 40) (h : (!(decide (y < 0)) && decide (y < nI n)) = true) : ∃ i, i < n ∧ y = nI i := by
  simp only [Bool.and_eq_true, Bool.not_eq_true', decide_eq_false_iff_not, decide_eq_true_eq] at h
  obtain ⟨j, hj, rfl⟩ := nI_of h.1
  exact ⟨j, (nI_ltI hj (by omega)).mp h.2, rfl⟩
theorem sub_neg {a x : Nat} (ha : a ≤ 40) (hx : x < 2 ^ 31) (h : a < x) : nI a - nI x < 0 := by
  obtain ⟨d, hd, rfl⟩ : ∃ d, d < 2 ^ 31 ∧ x = a + (d + 1) := ⟨x - a - 1, by omega, by omega⟩
  have e : nI a - nI (a + (d + 1)) = -1 - nI d := by
    rw [← nI_add, ← nI_1, ← Int32.sub_sub, Int32.sub_self, Int32.zero_sub, Int32.neg_add, Int32.sub_eq_add_neg, Int32.sub_eq_add_neg, Int32.add_comm]
  rw [e]
  rw [Int32.lt_iff_toInt_lt]
  have e2 : (-1 - nI d).toInt = -1 - (d : Int) := by
    rw [Int32.toInt_sub, nI_toInt hd]
    show Int.bmod (-1 - (d : Int)) (2 ^ 32) = _
    rw [Int.bmod_def]
    have h0 : (-1 - (d : Int)) % ((2 ^ 32 : Nat) : Int) = 2 ^ 32 - 1 - d := by omega
    rw [h0]
    split <;> omega
  rw [e2]
  show -1 - (d : Int) < 0
  omega
theorem hs_n {f k a : Nat} (hf : f < 2 ^ 31) (hk : k < 2 ^ 31) (ha : a ≤ 40) : hsOK (nI f) (nI k) (nI a) = decide (f + k ≤ a) := by
  by_cases h : f + k ≤ a
  · have h1 : ¬ nI a < nI k := nI_nlt (by omega) (by omega)
    have h2 : ¬ nI a - nI k < nI f := by rw [pk_sub (by omega)]; exact nI_nlt (by omega) (by omega)
    simp [hsOK, nI_pos hf, nI_pos hk, h1, h2, h]
  · by_cases h1 : a < k
    · simp [hsOK, nI_lt h1 hk, h]
    · have h2 : nI a - nI k < nI f := by rw [pk_sub (by omega)]; exact nI_lt (by omega) hf
      simp [hsOK, h2, h]
theorem cp_n {f g k a b : Nat} (hf : f < 2 ^ 31) (hg : g < 2 ^ 31) (hk : k < 2 ^ 31) (ha : a ≤ 40) (hb : b ≤ 40) : cpOK (nI f) (nI g) (nI k) (nI a) (nI b) = (decide (f + k ≤ a) && decide (g + k ≤ b)) := by
  have ea : (nI a - nI f < nI k) ↔ a < f + k := by
    by_cases h : f ≤ a
    · rw [pk_sub h, nI_ltI (by omega) hk]; omega
    · exact ⟨fun _ => by omega, fun _ => Int32.lt_of_lt_of_le (sub_neg ha hf (by omega)) (nI_pos' hk)⟩
  have eb : (nI k ≤ nI b - nI g) ↔ g + k ≤ b := by
    by_cases h : g ≤ b
    · rw [pk_sub h, nI_leI hk (by omega)]; omega
    · have h2 := sub_neg hb hg (show b < g by omega)
      exact ⟨fun e => absurd (Int32.lt_of_le_of_lt e h2) (nI_pos hk), fun _ => by omega⟩
  unfold cpOK
  rw [decide_eq_false (nI_pos hf), decide_eq_false (nI_pos hg), decide_eq_false (nI_pos hk), decide_eq_decide.mpr ea, decide_eq_decide.mpr eb]
  by_cases h : f + k ≤ a
  · rw [decide_eq_true h, decide_eq_false (show ¬ a < f + k by omega)]; rfl
  · rw [decide_eq_false h, decide_eq_true (show a < f + k by omega)]; rfl
theorem cp_eq {f g k sa sb : Int32} (ha : okN sa 40) (hb : okN sb 40) : (hsOK f k sa && hsOK g k sb) = cpOK f g k sa sb := by
  obtain ⟨a, ha, rfl⟩ := ha
  obtain ⟨b, hb, rfl⟩ := hb
  by_cases h1 : f < 0
  · simp [hsOK, cpOK, h1]
  · by_cases h2 : g < 0
    · simp [hsOK, cpOK, h2]
    · by_cases h3 : k < 0
      · simp [hsOK, cpOK, h3]
      · obtain ⟨f, hf, rfl⟩ := nI_of h1
        obtain ⟨g, hg, rfl⟩ := nI_of h2
        obtain ⟨k, hk, rfl⟩ := nI_of h3
        rw [hs_n hf hk ha, hs_n hg hk hb, cp_n hf hg hk ha hb]
theorem cp_nat {f g k : Int32} {a b : Nat} (ha : a ≤ 40) (hb : b ≤ 40) (h : (hsOK f k (nI a) && hsOK g k (nI b)) = true) : ∃ f' g' k' : Nat, f = nI f' ∧ g = nI g' ∧ k = nI k' ∧ f' + k' ≤ a ∧ g' + k' ≤ b := by
  rw [Bool.and_eq_true] at h
  have h1 : ¬ f < 0 := fun e => by have := h.1; simp [hsOK, e] at this
  have h2 : ¬ g < 0 := fun e => by have := h.2; simp [hsOK, e] at this
  have h3 : ¬ k < 0 := fun e => by have := h.1; simp [hsOK, e] at this
  obtain ⟨f, hf, rfl⟩ := nI_of h1
  obtain ⟨g, hg, rfl⟩ := nI_of h2
  obtain ⟨k, hk, rfl⟩ := nI_of h3
  rw [hs_n hf hk ha, hs_n hg hk hb, decide_eq_true_eq, decide_eq_true_eq] at h
  exact ⟨f, g, k, rfl, rfl, rfl, h.1, h.2⟩
theorem st7 (x : Int32) : decide (x ≤ 6) = decide (x < 7) := by
  refine decide_eq_decide.mpr ?_
  rw [Int32.le_iff_toInt_le, Int32.lt_iff_toInt_lt]
  show x.toInt ≤ 6 ↔ x.toInt < 7
  omega
theorem st_cases {x : Int32} (h : (!(decide (x < -1)) && decide (x < 7)) = true) : x = -1 ∨ ∃ w, w < 7 ∧ x = nI w := by
  simp only [Bool.and_eq_true, Bool.not_eq_true', decide_eq_false_iff_not, decide_eq_true_eq] at h
  by_cases h0 : x < 0
  · left
    rw [Int32.lt_iff_toInt_lt] at h0 h
    have e1 : (-1 : Int32).toInt = -1 := by decide
    have e0 : (0 : Int32).toInt = 0 := by decide
    rw [e1] at h
    rw [e0] at h0
    exact Int32.toInt_inj.mp (by rw [e1]; omega)
  · right
    obtain ⟨j, hj, rfl⟩ := nI_of h0
    exact ⟨j, (nI_ltI (b := 7) hj (by omega)).mp h.2, rfl⟩
set_option maxHeartbeats 4000000 in
set_option maxRecDepth 100000 in
theorem t_of {l : Launch} {E : EV} {ad : Nat → Nat → Nat} {w3 w4 : va_W} (hI : INV E ad w3 w4) (x : Int32) (y : Int32) : BOI l E ad yX3_of wsX3_of rmX3_of yX4_of wsX4_of rmX4_of [.int x, .int y] w3 w4 := by
  obtain ⟨kp, r, ke, tr, br, li, c, sa, en, tp, vl, by8, bts, szs, nus, fo, be, so, fr, tq, vm, wr, s, kes, ot, asd, ge, tap, bo, szz, nu, mv, rfl, rfl, hR, hk, hc, hT, hS⟩ := hI
  have hq := hR.rt
  cases hx : cIn 12 x with
  | false =>
    exact BOI.mk (u3 := W3 E ad (bI kp) r ke tr br li (nI c) sa en tp vl by8 bts szs nus (upd fo 0 (fo 0 + 1))) (u4 := W4 E ad (bI kp) be so (nI c) fr tq vm wr s kes ot asd (upd fo 0 (fo 0 + 1)) ge tap bo szz nu mv) (CI.frm (c_X3_ofbad l E (x := x) (y := y) (ox := ad 0) (rr := ad 1) (rk := ad 2) (rt := ad 3) (rb := ad 4) (xt := ad 5) (kp := bI kp) (fo := fo) (h1 := hx)) [0, 33] [1, 2, 3, 4, 5, 6, 7, 8, 9, 10, 11, 12, 13, 14, 15, 16, 17, 18, 19, 20, 21, 22, 23, 24, 25, 26, 27, 28, 29, 30, 31, 32] [32, 0, 1, 2, 3, 4, 5, 6, 7, 8, 9, 10, 11, 12, 13, 14, 15, 16, 17, 18, 19, 20, 21, 22, 23, 24, 25, 26, 27, 28, 29, 30, 31, 33] rfl 34 rfl (by decide) (by decide) rfl) (CI.frm (c_X4_ofbad l E (x := x) (y := y) (o := ad 6) (ik := bI kp) (be := be) (so := so) (tp := nI c) (fr := fr) (tq := tq) (vl := vm) (wr := wr) (stt := fo) (h1 := by rw [cIn_in (n := 12) (by decide), hx]; rfl)) [0, 5] [1, 2, 3, 4, 6, 7, 8, 9, 10, 11] [10, 0, 1, 2, 3, 11, 4, 5, 6, 7, 8, 9] rfl 12 rfl (by decide) (by decide) rfl) (by rfl) ⟨kp, r, ke, tr, br, li, c, sa, en, tp, vl, by8, bts, szs, nus, upd fo 0 (fo 0 + 1), be, so, fr, tq, vm, wr, s, kes, ot, asd, ge, tap, bo, szz, nu, mv, rfl, rfl, hR, hk, hc, hT, hS⟩
  | true =>
    obtain ⟨t, ht, rfl⟩ := cIn_nat (k := 12) (by decide) hx
    by_cases y0 : y = 0
    · subst y0
      exact BOI.mk (u3 := W3 E ad (bI kp) r ke tr br li (nI c) sa en tp vl by8 bts szs nus fo) (u4 := W4 E ad (bI kp) be so (nI c) fr tq vm wr s kes ot asd fo ge tap bo szz nu mv) (CI.frm (c_X3_of0 l E (t := t) (r := r) (ox := ad 0) (rr := ad 1) (rk := ad 2) (rt := ad 3) (rb := ad 4) (xt := ad 5) (kp := bI kp) (h1 := ht)) [0, 1, 2, 3, 4, 5] [6, 7, 8, 9, 10, 11, 12, 13, 14, 15, 16, 17, 18, 19, 20, 21, 22, 23, 24, 25, 26, 27, 28, 29, 30, 31, 32, 33] [28, 29, 30, 31, 32, 33, 0, 1, 2, 3, 4, 5, 6, 7, 8, 9, 10, 11, 12, 13, 14, 15, 16, 17, 18, 19, 20, 21, 22, 23, 24, 25, 26, 27] rfl 34 rfl (by decide) (by decide) rfl) (CI.frm (c_X4_of0 l E (t := t) (o := ad 6) (ik := bI kp) (be := be) (so := so) (tp := nI c) (fr := fr) (tq := tq) (vl := vm) (wr := wr) (s := s) (h1 := ht)) [0, 1] [2, 3, 4, 5, 6, 7, 8, 9, 10, 11] [10, 11, 0, 1, 2, 3, 4, 5, 6, 7, 8, 9] rfl 12 rfl (by decide) (by decide) rfl) (by exact (hq.2.2.2 t ht).1.symm) ⟨kp, r, ke, tr, br, li, c, sa, en, tp, vl, by8, bts, szs, nus, fo, be, so, fr, tq, vm, wr, s, kes, ot, asd, ge, tap, bo, szz, nu, mv, rfl, rfl, hR, hk, hc, hT, hS⟩
    by_cases y1 : y = 1
    · subst y1
      exact BOI.mk (u3 := W3 E ad (bI kp) r ke tr br li (nI c) sa en tp vl by8 bts szs nus fo) (u4 := W4 E ad (bI kp) be so (nI c) fr tq vm wr s kes ot asd fo ge tap bo szz nu mv) (CI.frm (c_X3_of1 l E (t := t) (r := r) (ox := ad 0) (rr := ad 1) (rk := ad 2) (rt := ad 3) (rb := ad 4) (xt := ad 5) (kp := bI kp) (h1 := ht)) [0, 1, 2, 3, 4, 5] [6, 7, 8, 9, 10, 11, 12, 13, 14, 15, 16, 17, 18, 19, 20, 21, 22, 23, 24, 25, 26, 27, 28, 29, 30, 31, 32, 33] [28, 29, 30, 31, 32, 33, 0, 1, 2, 3, 4, 5, 6, 7, 8, 9, 10, 11, 12, 13, 14, 15, 16, 17, 18, 19, 20, 21, 22, 23, 24, 25, 26, 27] rfl 34 rfl (by decide) (by decide) rfl) (CI.frm (c_X4_of1 l E (t := t) (o := ad 6) (ik := bI kp) (be := be) (so := so) (tp := nI c) (fr := fr) (tq := tq) (vl := vm) (wr := wr) (s := s) (h1 := ht)) [0, 1] [2, 3, 4, 5, 6, 7, 8, 9, 10, 11] [10, 11, 0, 1, 2, 3, 4, 5, 6, 7, 8, 9] rfl 12 rfl (by decide) (by decide) rfl) (by exact ((hq.2.2.2 t ht).2.1.2 trivial).symm) ⟨kp, r, ke, tr, br, li, c, sa, en, tp, vl, by8, bts, szs, nus, fo, be, so, fr, tq, vm, wr, s, kes, ot, asd, ge, tap, bo, szz, nu, mv, rfl, rfl, hR, hk, hc, hT, hS⟩
    by_cases y2 : y = 2
    · subst y2
      exact BOI.mk (u3 := W3 E ad (bI kp) r ke tr br li (nI c) sa en tp vl by8 bts szs nus fo) (u4 := W4 E ad (bI kp) be so (nI c) fr tq vm wr s kes ot asd fo ge tap bo szz nu mv) (CI.frm (c_X3_of2 l E (t := t) (r := r) (ox := ad 0) (rr := ad 1) (rk := ad 2) (rt := ad 3) (rb := ad 4) (xt := ad 5) (kp := bI kp) (h1 := ht)) [0, 1, 2, 3, 4, 5] [6, 7, 8, 9, 10, 11, 12, 13, 14, 15, 16, 17, 18, 19, 20, 21, 22, 23, 24, 25, 26, 27, 28, 29, 30, 31, 32, 33] [28, 29, 30, 31, 32, 33, 0, 1, 2, 3, 4, 5, 6, 7, 8, 9, 10, 11, 12, 13, 14, 15, 16, 17, 18, 19, 20, 21, 22, 23, 24, 25, 26, 27] rfl 34 rfl (by decide) (by decide) rfl) (CI.frm (c_X4_of2 l E (t := t) (o := ad 6) (ik := bI kp) (be := be) (so := so) (tp := nI c) (fr := fr) (tq := tq) (vl := vm) (wr := wr) (s := s) (h1 := ht)) [0, 1] [2, 3, 4, 5, 6, 7, 8, 9, 10, 11] [10, 11, 0, 1, 2, 3, 4, 5, 6, 7, 8, 9] rfl 12 rfl (by decide) (by decide) rfl) (by exact (leans_tie hq.1 hq.2 ht).symm) ⟨kp, r, ke, tr, br, li, c, sa, en, tp, vl, by8, bts, szs, nus, fo, be, so, fr, tq, vm, wr, s, kes, ot, asd, ge, tap, bo, szz, nu, mv, rfl, rfl, hR, hk, hc, hT, hS⟩
    by_cases y3 : y = 3
    · subst y3
      exact BOI.mk (u3 := W3 E ad (bI kp) r ke tr br li (nI c) sa en tp vl by8 bts szs nus fo) (u4 := W4 E ad (bI kp) be so (nI c) fr tq vm wr s kes ot asd fo ge tap bo szz nu mv) (CI.frm (c_X3_of3 l E (t := t) (r := r) (ox := ad 0) (rr := ad 1) (rk := ad 2) (rt := ad 3) (rb := ad 4) (xt := ad 5) (kp := bI kp) (h1 := ht)) [0, 1, 2, 3, 4, 5] [6, 7, 8, 9, 10, 11, 12, 13, 14, 15, 16, 17, 18, 19, 20, 21, 22, 23, 24, 25, 26, 27, 28, 29, 30, 31, 32, 33] [28, 29, 30, 31, 32, 33, 0, 1, 2, 3, 4, 5, 6, 7, 8, 9, 10, 11, 12, 13, 14, 15, 16, 17, 18, 19, 20, 21, 22, 23, 24, 25, 26, 27] rfl 34 rfl (by decide) (by decide) rfl) (CI.frm (c_X4_of3 l E (t := t) (o := ad 6) (ik := bI kp) (be := be) (so := so) (tp := nI c) (fr := fr) (tq := tq) (vl := vm) (wr := wr) (s := s) (h1 := ht)) [0, 1] [2, 3, 4, 5, 6, 7, 8, 9, 10, 11] [10, 11, 0, 1, 2, 3, 4, 5, 6, 7, 8, 9] rfl 12 rfl (by decide) (by decide) rfl) (by exact (nods_tie hq.2 ht).symm) ⟨kp, r, ke, tr, br, li, c, sa, en, tp, vl, by8, bts, szs, nus, fo, be, so, fr, tq, vm, wr, s, kes, ot, asd, ge, tap, bo, szz, nu, mv, rfl, rfl, hR, hk, hc, hT, hS⟩
    by_cases y4 : y = 4
    · subst y4
      exact BOI.mk (u3 := W3 E ad (bI kp) r ke tr br li (nI c) sa en tp vl by8 bts szs nus fo) (u4 := W4 E ad (bI kp) be so (nI c) fr tq vm wr s kes ot asd fo ge tap bo szz nu mv) (CI.frm (c_X3_of4 l E (t := t) (r := r) (ox := ad 0) (rr := ad 1) (rk := ad 2) (rt := ad 3) (rb := ad 4) (xt := ad 5) (kp := bI kp) (h1 := ht)) [0, 1, 2, 3, 4, 5] [6, 7, 8, 9, 10, 11, 12, 13, 14, 15, 16, 17, 18, 19, 20, 21, 22, 23, 24, 25, 26, 27, 28, 29, 30, 31, 32, 33] [28, 29, 30, 31, 32, 33, 0, 1, 2, 3, 4, 5, 6, 7, 8, 9, 10, 11, 12, 13, 14, 15, 16, 17, 18, 19, 20, 21, 22, 23, 24, 25, 26, 27] rfl 34 rfl (by decide) (by decide) rfl) (CI.frm (c_X4_of4 l E (t := t) (o := ad 6) (ik := bI kp) (be := be) (so := so) (tp := nI c) (fr := fr) (tq := tq) (vl := vm) (wr := wr) (s := s) (h1 := ht)) [0, 1] [2, 3, 4, 5, 6, 7, 8, 9, 10, 11] [10, 11, 0, 1, 2, 3, 4, 5, 6, 7, 8, 9] rfl 12 rfl (by decide) (by decide) rfl) (by rw [hear_tie hq.2 ht]) ⟨kp, r, ke, tr, br, li, c, sa, en, tp, vl, by8, bts, szs, nus, fo, be, so, fr, tq, vm, wr, s, kes, ot, asd, ge, tap, bo, szz, nu, mv, rfl, rfl, hR, hk, hc, hT, hS⟩
    by_cases y5 : y = 5
    · subst y5
      exact BOI.mk (u3 := W3 E ad (bI kp) r ke tr br li (nI c) sa en tp vl by8 bts szs nus fo) (u4 := W4 E ad (bI kp) be so (nI c) fr tq vm wr s kes ot asd fo ge tap bo szz nu mv) (CI.frm (c_X3_of5 l E (t := t) (r := r) (ox := ad 0) (rr := ad 1) (rk := ad 2) (rt := ad 3) (rb := ad 4) (xt := ad 5) (kp := bI kp) (h1 := ht)) [0, 1, 2, 3, 4, 5] [6, 7, 8, 9, 10, 11, 12, 13, 14, 15, 16, 17, 18, 19, 20, 21, 22, 23, 24, 25, 26, 27, 28, 29, 30, 31, 32, 33] [28, 29, 30, 31, 32, 33, 0, 1, 2, 3, 4, 5, 6, 7, 8, 9, 10, 11, 12, 13, 14, 15, 16, 17, 18, 19, 20, 21, 22, 23, 24, 25, 26, 27] rfl 34 rfl (by decide) (by decide) rfl) (CI.frm (c_X4_of5 l E (t := t) (o := ad 6) (ik := bI kp) (be := be) (so := so) (tp := nI c) (fr := fr) (tq := tq) (vl := vm) (wr := wr) (s := s) (h1 := ht)) [0, 1] [2, 3, 4, 5, 6, 7, 8, 9, 10, 11] [10, 11, 0, 1, 2, 3, 4, 5, 6, 7, 8, 9] rfl 12 rfl (by decide) (by decide) rfl) (by exact kb_tie hq (by omega) ht) ⟨kp, r, ke, tr, br, li, c, sa, en, tp, vl, by8, bts, szs, nus, fo, be, so, fr, tq, vm, wr, s, kes, ot, asd, ge, tap, bo, szz, nu, mv, rfl, rfl, hR, hk, hc, hT, hS⟩
    have hy : inI y 0 5 = false := by
      cases hy : inI y 0 5 with
      | false => rfl
      | true => rcases six_cases (hi := 0) hy with e | e | e | e | e | e <;> contradiction
    exact BOI.mk (u3 := W3 E ad (bI kp) r ke tr br li (nI c) sa en tp vl by8 bts szs nus (upd fo 0 (fo 0 + 1))) (u4 := W4 E ad (bI kp) be so (nI c) fr tq vm wr s kes ot asd (upd fo 0 (fo 0 + 1)) ge tap bo szz nu mv) (CI.frm (c_X3_ofbad2 l E (t := t) (y := y) (ox := ad 0) (rr := ad 1) (rk := ad 2) (rt := ad 3) (rb := ad 4) (xt := ad 5) (kp := bI kp) (fo := fo) (h1 := ht) (h2 := y0) (h3 := y1) (h4 := y2) (h5 := y3) (h6 := y4) (h7 := y5)) [0, 33] [1, 2, 3, 4, 5, 6, 7, 8, 9, 10, 11, 12, 13, 14, 15, 16, 17, 18, 19, 20, 21, 22, 23, 24, 25, 26, 27, 28, 29, 30, 31, 32] [32, 0, 1, 2, 3, 4, 5, 6, 7, 8, 9, 10, 11, 12, 13, 14, 15, 16, 17, 18, 19, 20, 21, 22, 23, 24, 25, 26, 27, 28, 29, 30, 31, 33] rfl 34 rfl (by decide) (by decide) rfl) (CI.frm (c_X4_ofbad l E (x := nI t) (y := y) (o := ad 6) (ik := bI kp) (be := be) (so := so) (tp := nI c) (fr := fr) (tq := tq) (vl := vm) (wr := wr) (stt := fo) (h1 := by rw [hy, Bool.and_false])) [0, 5] [1, 2, 3, 4, 6, 7, 8, 9, 10, 11] [10, 0, 1, 2, 3, 11, 4, 5, 6, 7, 8, 9] rfl 12 rfl (by decide) (by decide) rfl) (by rfl) ⟨kp, r, ke, tr, br, li, c, sa, en, tp, vl, by8, bts, szs, nus, upd fo 0 (fo 0 + 1), be, so, fr, tq, vm, wr, s, kes, ot, asd, ge, tap, bo, szz, nu, mv, rfl, rfl, hR, hk, hc, hT, hS⟩
set_option maxHeartbeats 4000000 in
set_option maxRecDepth 100000 in
theorem t_since {l : Launch} {E : EV} {ad : Nat → Nat → Nat} {w3 w4 : va_W} (hI : INV E ad w3 w4) (x : Int32) (y : Int32) : BOI l E ad yX3_since wsX3_since rmX3_since yX4_since wsX4_since rmX4_since [.int x, .int y] w3 w4 := by
  obtain ⟨kp, r, ke, tr, br, li, c, sa, en, tp, vl, by8, bts, szs, nus, fo, be, so, fr, tq, vm, wr, s, kes, ot, asd, ge, tap, bo, szz, nu, mv, rfl, rfl, hR, hk, hc, hT, hS⟩ := hI
  have hq := hR.rt
  cases hxy : (cIn 12 x && cIn 8 y) with
  | false =>
    exact BOI.mk (u3 := W3 E ad (bI kp) r ke tr br li (nI c) sa en tp vl by8 bts szs nus (upd fo 0 (fo 0 + 1))) (u4 := W4 E ad (bI kp) be so (nI c) fr tq vm wr s kes ot asd (upd fo 0 (fo 0 + 1)) ge tap bo szz nu mv) (CI.frm (c_X3_sincebad l E (x := x) (y := y) (ox := ad 0) (rr := ad 1) (rk := ad 2) (rt := ad 3) (rb := ad 4) (xt := ad 5) (kp := bI kp) (fo := fo) (h1 := hxy)) [0, 33] [1, 2, 3, 4, 5, 6, 7, 8, 9, 10, 11, 12, 13, 14, 15, 16, 17, 18, 19, 20, 21, 22, 23, 24, 25, 26, 27, 28, 29, 30, 31, 32] [32, 0, 1, 2, 3, 4, 5, 6, 7, 8, 9, 10, 11, 12, 13, 14, 15, 16, 17, 18, 19, 20, 21, 22, 23, 24, 25, 26, 27, 28, 29, 30, 31, 33] rfl 34 rfl (by decide) (by decide) rfl) (CI.frm (c_X4_sincebad l E (x := x) (y := y) (o := ad 6) (ik := bI kp) (be := be) (so := so) (tp := nI c) (fr := fr) (tq := tq) (vl := vm) (wr := wr) (stt := fo) (h1 := by rw [cIn_in (n := 12) (by decide), cIn_in (n := 8) (by decide)]; exact hxy)) [0, 5] [1, 2, 3, 4, 6, 7, 8, 9, 10, 11] [10, 0, 1, 2, 3, 11, 4, 5, 6, 7, 8, 9] rfl 12 rfl (by decide) (by decide) rfl) (by rfl) ⟨kp, r, ke, tr, br, li, c, sa, en, tp, vl, by8, bts, szs, nus, upd fo 0 (fo 0 + 1), be, so, fr, tq, vm, wr, s, kes, ot, asd, ge, tap, bo, szz, nu, mv, rfl, rfl, hR, hk, hc, hT, hS⟩
  | true =>
    rw [Bool.and_eq_true] at hxy
    obtain ⟨t, ht, rfl⟩ := cIn_nat (k := 12) (by decide) hxy.1
    obtain ⟨m, hm, rfl⟩ := cIn_nat (k := 8) (by decide) hxy.2
    cases hkn : av_k r t m with
    | true =>
      exact BOI.mk (u3 := W3 E ad (bI kp) r ke tr br li (nI c) sa en tp vl by8 bts szs nus fo) (u4 := W4 E ad (bI kp) be so (nI c) fr tq vm wr s kes ot asd fo ge tap bo szz nu mv) (CI.frm (c_X3_sincek l E (t := t) (m := m) (r := r) (ox := ad 0) (rr := ad 1) (rk := ad 2) (rt := ad 3) (rb := ad 4) (xt := ad 5) (kp := bI kp) (h1 := ht) (h2 := hm) (h3 := hkn)) [0, 1, 2, 3, 4, 5] [6, 7, 8, 9, 10, 11, 12, 13, 14, 15, 16, 17, 18, 19, 20, 21, 22, 23, 24, 25, 26, 27, 28, 29, 30, 31, 32, 33] [28, 29, 30, 31, 32, 33, 0, 1, 2, 3, 4, 5, 6, 7, 8, 9, 10, 11, 12, 13, 14, 15, 16, 17, 18, 19, 20, 21, 22, 23, 24, 25, 26, 27] rfl 34 rfl (by decide) (by decide) rfl) (CI.frm (c_X4_sincek l E (t := t) (m := m) (o := ad 6) (ik := bI kp) (be := be) (so := so) (tp := nI c) (fr := fr) (tq := tq) (vl := vm) (wr := wr) (s := s) (h1 := ht) (h2 := hm) (h3 := (kt2 hq (by omega) ht hm).trans hkn)) [0, 1] [2, 3, 4, 5, 6, 7, 8, 9, 10, 11] [10, 11, 0, 1, 2, 3, 4, 5, 6, 7, 8, 9] rfl 12 rfl (by decide) (by decide) rfl) (by rw [(hq.2.2.2 t ht).2.2 m hm trivial, sn, hkn, if_pos rfl]) ⟨kp, r, ke, tr, br, li, c, sa, en, tp, vl, by8, bts, szs, nus, fo, be, so, fr, tq, vm, wr, s, kes, ot, asd, ge, tap, bo, szz, nu, mv, rfl, rfl, hR, hk, hc, hT, hS⟩
    | false =>
      exact BOI.mk (u3 := W3 E ad (bI kp) r ke tr br li (nI c) sa en tp vl by8 bts szs nus (upd fo 3 (fo 3 + 1))) (u4 := W4 E ad (bI kp) be so (nI c) fr tq vm wr s kes ot asd (upd fo 3 (fo 3 + 1)) ge tap bo szz nu mv) (CI.frm (c_X3_sinceu l E (t := t) (m := m) (r := r) (ox := ad 0) (rr := ad 1) (rk := ad 2) (rt := ad 3) (rb := ad 4) (xt := ad 5) (kp := bI kp) (fo := fo) (h1 := ht) (h2 := hm) (h3 := hkn)) [0, 1, 2, 3, 4, 5, 33] [6, 7, 8, 9, 10, 11, 12, 13, 14, 15, 16, 17, 18, 19, 20, 21, 22, 23, 24, 25, 26, 27, 28, 29, 30, 31, 32] [27, 28, 29, 30, 31, 32, 0, 1, 2, 3, 4, 5, 6, 7, 8, 9, 10, 11, 12, 13, 14, 15, 16, 17, 18, 19, 20, 21, 22, 23, 24, 25, 26, 33] rfl 34 rfl (by decide) (by decide) rfl) (CI.frm (c_X4_sinceu l E (t := t) (m := m) (o := ad 6) (ik := bI kp) (be := be) (so := so) (tp := nI c) (fr := fr) (tq := tq) (vl := vm) (wr := wr) (s := s) (stt := fo) (h1 := ht) (h2 := hm) (h3 := (kt2 hq (by omega) ht hm).trans hkn)) [0, 1, 5] [2, 3, 4, 6, 7, 8, 9, 10, 11] [9, 10, 0, 1, 2, 11, 3, 4, 5, 6, 7, 8] rfl 12 rfl (by decide) (by decide) rfl) (by rfl) ⟨kp, r, ke, tr, br, li, c, sa, en, tp, vl, by8, bts, szs, nus, upd fo 3 (fo 3 + 1), be, so, fr, tq, vm, wr, s, kes, ot, asd, ge, tap, bo, szz, nu, mv, rfl, rfl, hR, hk, hc, hT, hS⟩
set_option maxHeartbeats 4000000 in
set_option maxRecDepth 100000 in
theorem t_plant {l : Launch} {E : EV} {ad : Nat → Nat → Nat} {w3 w4 : va_W} (hI : INV E ad w3 w4) (x : Int32) (y : Int32) : BOI l E ad yX3_plant wsX3_plant rmX3_plant yX4_plant wsX4_plant rmX4_plant [.int x, .int y] w3 w4 := by
  obtain ⟨kp, r, ke, tr, br, li, c, sa, en, tp, vl, by8, bts, szs, nus, fo, be, so, fr, tq, vm, wr, s, kes, ot, asd, ge, tap, bo, szz, nu, mv, rfl, rfl, hR, hk, hc, hT, hS⟩ := hI
  have hq := hR.rt
  cases hxy : (cIn 12 x && cIn 6 y) with
  | false =>
    exact BOI.mk (u3 := W3 E ad (bI kp) r ke tr br li (nI c) sa en tp vl by8 bts szs nus (upd fo 0 (fo 0 + 1))) (u4 := W4 E ad (bI kp) be so (nI c) fr tq vm wr s kes ot asd (upd fo 0 (fo 0 + 1)) ge tap bo szz nu mv) (CI.frm (c_X3_plantbad l E (x := x) (y := y) (ox := ad 0) (rr := ad 1) (rk := ad 2) (rt := ad 3) (rb := ad 4) (xt := ad 5) (kp := bI kp) (fo := fo) (h1 := hxy)) [0, 33] [1, 2, 3, 4, 5, 6, 7, 8, 9, 10, 11, 12, 13, 14, 15, 16, 17, 18, 19, 20, 21, 22, 23, 24, 25, 26, 27, 28, 29, 30, 31, 32] [32, 0, 1, 2, 3, 4, 5, 6, 7, 8, 9, 10, 11, 12, 13, 14, 15, 16, 17, 18, 19, 20, 21, 22, 23, 24, 25, 26, 27, 28, 29, 30, 31, 33] rfl 34 rfl (by decide) (by decide) rfl) (CI.frm (c_X4_plantbad l E (x := x) (y := y) (o := ad 6) (ik := bI kp) (be := be) (so := so) (tp := nI c) (fr := fr) (tq := tq) (vl := vm) (wr := wr) (stt := fo) (h1 := by rw [cIn_in (n := 12) (by decide), cIn_in (n := 6) (by decide)]; exact hxy)) [0, 5] [1, 2, 3, 4, 6, 7, 8, 9, 10, 11] [10, 0, 1, 2, 3, 11, 4, 5, 6, 7, 8, 9] rfl 12 rfl (by decide) (by decide) rfl) (by rfl) ⟨kp, r, ke, tr, br, li, c, sa, en, tp, vl, by8, bts, szs, nus, upd fo 0 (fo 0 + 1), be, so, fr, tq, vm, wr, s, kes, ot, asd, ge, tap, bo, szz, nu, mv, rfl, rfl, hR, hk, hc, hT, hS⟩
  | true =>
    rw [Bool.and_eq_true] at hxy
    obtain ⟨t, ht, rfl⟩ := cIn_nat (k := 12) (by decide) hxy.1
    obtain ⟨k, hk6, rfl⟩ := cIn_nat (k := 6) (by decide) hxy.2
    exact BOI.mk (u3 := W3 E ad (bI kp) (av_anew r t (nI k) 0) ke tr br li (nI c) sa en tp vl by8 bts szs nus fo) (u4 := W4 E ad (bI kp) be so (nI c) fr tq vm wr (ms_sets s t (nI k) 0) kes ot asd fo ge tap bo szz nu mv) (CI.frm (c_X3_plantok l E (t := t) (k := k) (r := r) (ox := ad 0) (rr := ad 1) (rk := ad 2) (rt := ad 3) (rb := ad 4) (xt := ad 5) (kp := bI kp) (h1 := ht) (h2 := hk6)) [0, 1, 2, 3, 4, 5] [6, 7, 8, 9, 10, 11, 12, 13, 14, 15, 16, 17, 18, 19, 20, 21, 22, 23, 24, 25, 26, 27, 28, 29, 30, 31, 32, 33] [28, 29, 30, 31, 32, 33, 0, 1, 2, 3, 4, 5, 6, 7, 8, 9, 10, 11, 12, 13, 14, 15, 16, 17, 18, 19, 20, 21, 22, 23, 24, 25, 26, 27] rfl 34 rfl (by decide) (by decide) rfl) (CI.frm (c_X4_plantok l E (t := t) (k := k) (o := ad 6) (ik := bI kp) (be := be) (so := so) (tp := nI c) (fr := fr) (tq := tq) (vl := vm) (wr := wr) (s := s) (h1 := ht) (h2 := hk6)) [0, 1] [2, 3, 4, 5, 6, 7, 8, 9, 10, 11] [10, 11, 0, 1, 2, 3, 4, 5, 6, 7, 8, 9] rfl 12 rfl (by decide) (by decide) rfl) (by exact (hq.2.2.2 t ht).1.symm) ⟨kp, av_anew r t (nI k) 0, ke, tr, br, li, c, sa, en, tp, vl, by8, bts, szs, nus, fo, be, so, fr, tq, vm, wr, ms_sets s t (nI k) 0, kes, ot, asd, ge, tap, bo, szz, nu, mv, rfl, rfl, (hR.op (fun Y _ h => anew_tie h ht ⟨k, by omega, rfl⟩ ⟨0, by omega, rfl⟩) rfl), hk, hc, hT, hS⟩
set_option maxHeartbeats 4000000 in
set_option maxRecDepth 100000 in
theorem t_turn {l : Launch} {E : EV} {ad : Nat → Nat → Nat} {w3 w4 : va_W} (hI : INV E ad w3 w4) (x : Int32) (y : Int32) : BOI l E ad yX3_turn wsX3_turn rmX3_turn yX4_turn wsX4_turn rmX4_turn [.int x, .int y] w3 w4 := by
  obtain ⟨kp, r, ke, tr, br, li, c, sa, en, tp, vl, by8, bts, szs, nus, fo, be, so, fr, tq, vm, wr, s, kes, ot, asd, ge, tap, bo, szz, nu, mv, rfl, rfl, hR, hk, hc, hT, hS⟩ := hI
  have hq := hR.rt
  cases hxy : (cIn 12 x && cIn 6 y) with
  | false =>
    exact BOI.mk (u3 := W3 E ad (bI kp) r ke tr br li (nI c) sa en tp vl by8 bts szs nus (upd fo 0 (fo 0 + 1))) (u4 := W4 E ad (bI kp) be so (nI c) fr tq vm wr s kes ot asd (upd fo 0 (fo 0 + 1)) ge tap bo szz nu mv) (CI.frm (c_X3_turnbad l E (x := x) (y := y) (ox := ad 0) (rr := ad 1) (rk := ad 2) (rt := ad 3) (rb := ad 4) (xt := ad 5) (kp := bI kp) (fo := fo) (h1 := hxy)) [0, 33] [1, 2, 3, 4, 5, 6, 7, 8, 9, 10, 11, 12, 13, 14, 15, 16, 17, 18, 19, 20, 21, 22, 23, 24, 25, 26, 27, 28, 29, 30, 31, 32] [32, 0, 1, 2, 3, 4, 5, 6, 7, 8, 9, 10, 11, 12, 13, 14, 15, 16, 17, 18, 19, 20, 21, 22, 23, 24, 25, 26, 27, 28, 29, 30, 31, 33] rfl 34 rfl (by decide) (by decide) rfl) (CI.frm (c_X4_turnbad l E (x := x) (y := y) (o := ad 6) (ik := bI kp) (be := be) (so := so) (tp := nI c) (fr := fr) (tq := tq) (vl := vm) (wr := wr) (stt := fo) (h1 := by rw [cIn_in (n := 12) (by decide), cIn_in (n := 6) (by decide)]; exact hxy)) [0, 5] [1, 2, 3, 4, 6, 7, 8, 9, 10, 11] [10, 0, 1, 2, 3, 11, 4, 5, 6, 7, 8, 9] rfl 12 rfl (by decide) (by decide) rfl) (by rfl) ⟨kp, r, ke, tr, br, li, c, sa, en, tp, vl, by8, bts, szs, nus, upd fo 0 (fo 0 + 1), be, so, fr, tq, vm, wr, s, kes, ot, asd, ge, tap, bo, szz, nu, mv, rfl, rfl, hR, hk, hc, hT, hS⟩
  | true =>
    rw [Bool.and_eq_true] at hxy
    obtain ⟨t, ht, rfl⟩ := cIn_nat (k := 12) (by decide) hxy.1
    obtain ⟨k, hk6, rfl⟩ := cIn_nat (k := 6) (by decide) hxy.2
    exact BOI.mk (u3 := W3 E ad (bI kp) (av_kind r t (nI k)) ke tr br li (nI c) sa en tp vl by8 bts szs nus fo) (u4 := W4 E ad (bI kp) be so (nI c) fr tq vm wr (upd s (2 + 10 * t) (nI k)) kes ot asd fo ge tap bo szz nu mv) (CI.frm (c_X3_turnok l E (t := t) (k := k) (r := r) (ox := ad 0) (rr := ad 1) (rk := ad 2) (rt := ad 3) (rb := ad 4) (xt := ad 5) (kp := bI kp) (h1 := ht) (h2 := hk6)) [0, 1, 2, 3, 4, 5] [6, 7, 8, 9, 10, 11, 12, 13, 14, 15, 16, 17, 18, 19, 20, 21, 22, 23, 24, 25, 26, 27, 28, 29, 30, 31, 32, 33] [28, 29, 30, 31, 32, 33, 0, 1, 2, 3, 4, 5, 6, 7, 8, 9, 10, 11, 12, 13, 14, 15, 16, 17, 18, 19, 20, 21, 22, 23, 24, 25, 26, 27] rfl 34 rfl (by decide) (by decide) rfl) (CI.frm (c_X4_turnok l E (t := t) (k := k) (o := ad 6) (ik := bI kp) (be := be) (so := so) (tp := nI c) (fr := fr) (tq := tq) (vl := vm) (wr := wr) (s := s) (h1 := ht) (h2 := hk6)) [0, 1] [2, 3, 4, 5, 6, 7, 8, 9, 10, 11] [10, 11, 0, 1, 2, 3, 4, 5, 6, 7, 8, 9] rfl 12 rfl (by decide) (by decide) rfl) (by exact (hq.2.2.2 t ht).1.symm) ⟨kp, av_kind r t (nI k), ke, tr, br, li, c, sa, en, tp, vl, by8, bts, szs, nus, fo, be, so, fr, tq, vm, wr, upd s (2 + 10 * t) (nI k), kes, ot, asd, ge, tap, bo, szz, nu, mv, rfl, rfl, (hR.op (fun Y _ h => kind_tie h ht ⟨k, by omega, rfl⟩) rfl), hk, hc, hT, hS⟩
set_option maxHeartbeats 4000000 in
set_option maxRecDepth 100000 in
theorem t_age {l : Launch} {E : EV} {ad : Nat → Nat → Nat} {w3 w4 : va_W} (hI : INV E ad w3 w4) (x : Int32) (y : Int32) : BOI l E ad yX3_age wsX3_age rmX3_age yX4_age wsX4_age rmX4_age [.int x, .int y] w3 w4 := by
  obtain ⟨kp, r, ke, tr, br, li, c, sa, en, tp, vl, by8, bts, szs, nus, fo, be, so, fr, tq, vm, wr, s, kes, ot, asd, ge, tap, bo, szz, nu, mv, rfl, rfl, hR, hk, hc, hT, hS⟩ := hI
  have hq := hR.rt
  cases hxy : (cIn 12 x && cAg y) with
  | false =>
    exact BOI.mk (u3 := W3 E ad (bI kp) r ke tr br li (nI c) sa en tp vl by8 bts szs nus (upd fo 0 (fo 0 + 1))) (u4 := W4 E ad (bI kp) be so (nI c) fr tq vm wr s kes ot asd (upd fo 0 (fo 0 + 1)) ge tap bo szz nu mv) (CI.frm (c_X3_agebad l E (x := x) (y := y) (ox := ad 0) (rr := ad 1) (rk := ad 2) (rt := ad 3) (rb := ad 4) (xt := ad 5) (kp := bI kp) (fo := fo) (h1 := hxy)) [0, 33] [1, 2, 3, 4, 5, 6, 7, 8, 9, 10, 11, 12, 13, 14, 15, 16, 17, 18, 19, 20, 21, 22, 23, 24, 25, 26, 27, 28, 29, 30, 31, 32] [32, 0, 1, 2, 3, 4, 5, 6, 7, 8, 9, 10, 11, 12, 13, 14, 15, 16, 17, 18, 19, 20, 21, 22, 23, 24, 25, 26, 27, 28, 29, 30, 31, 33] rfl 34 rfl (by decide) (by decide) rfl) (CI.frm (c_X4_agebad l E (x := x) (y := y) (o := ad 6) (ik := bI kp) (be := be) (so := so) (tp := nI c) (fr := fr) (tq := tq) (vl := vm) (wr := wr) (stt := fo) (h1 := by rw [cIn_in (n := 12) (by decide), cAg_in]; exact hxy)) [0, 5] [1, 2, 3, 4, 6, 7, 8, 9, 10, 11] [10, 0, 1, 2, 3, 11, 4, 5, 6, 7, 8, 9] rfl 12 rfl (by decide) (by decide) rfl) (by rfl) ⟨kp, r, ke, tr, br, li, c, sa, en, tp, vl, by8, bts, szs, nus, upd fo 0 (fo 0 + 1), be, so, fr, tq, vm, wr, s, kes, ot, asd, ge, tap, bo, szz, nu, mv, rfl, rfl, hR, hk, hc, hT, hS⟩
  | true =>
    rw [Bool.and_eq_true] at hxy
    obtain ⟨t, ht, rfl⟩ := cIn_nat (k := 12) (by decide) hxy.1
    obtain ⟨k, hk6, rfl⟩ := cAg_nat hxy.2
    exact BOI.mk (u3 := W3 E ad (bI kp) (av_aged r t (nI k)) ke tr br li (nI c) sa en tp vl by8 bts szs nus fo) (u4 := W4 E ad (bI kp) be so (nI c) fr tq vm wr (upd s (2 + 10 * t + 1) (nI k)) kes ot asd fo ge tap bo szz nu mv) (CI.frm (c_X3_ageok l E (t := t) (k := k) (r := r) (ox := ad 0) (rr := ad 1) (rk := ad 2) (rt := ad 3) (rb := ad 4) (xt := ad 5) (kp := bI kp) (h1 := ht) (h2 := hk6)) [0, 1, 2, 3, 4, 5] [6, 7, 8, 9, 10, 11, 12, 13, 14, 15, 16, 17, 18, 19, 20, 21, 22, 23, 24, 25, 26, 27, 28, 29, 30, 31, 32, 33] [28, 29, 30, 31, 32, 33, 0, 1, 2, 3, 4, 5, 6, 7, 8, 9, 10, 11, 12, 13, 14, 15, 16, 17, 18, 19, 20, 21, 22, 23, 24, 25, 26, 27] rfl 34 rfl (by decide) (by decide) rfl) (CI.frm (c_X4_ageok l E (t := t) (k := k) (o := ad 6) (ik := bI kp) (be := be) (so := so) (tp := nI c) (fr := fr) (tq := tq) (vl := vm) (wr := wr) (s := s) (h1 := ht) (h2 := hk6)) [0, 1] [2, 3, 4, 5, 6, 7, 8, 9, 10, 11] [10, 11, 0, 1, 2, 3, 4, 5, 6, 7, 8, 9] rfl 12 rfl (by decide) (by decide) rfl) (by exact ((hq.2.2.2 t ht).2.1.2 trivial).symm) ⟨kp, av_aged r t (nI k), ke, tr, br, li, c, sa, en, tp, vl, by8, bts, szs, nus, fo, be, so, fr, tq, vm, wr, upd s (2 + 10 * t + 1) (nI k), kes, ot, asd, ge, tap, bo, szz, nu, mv, rfl, rfl, (hR.op (fun Y _ h => aged_tie h ht ⟨k, by omega, rfl⟩) rfl), hk, hc, hT, hS⟩
set_option maxHeartbeats 4000000 in
set_option maxRecDepth 100000 in
theorem t_as {l : Launch} {E : EV} {ad : Nat → Nat → Nat} {w3 w4 : va_W} (hI : INV E ad w3 w4) (x : Int32) (y : Int32) : BOI l E ad yX3_as wsX3_as rmX3_as yX4_as wsX4_as rmX4_as [.int x, .int y] w3 w4 := by
  obtain ⟨kp, r, ke, tr, br, li, c, sa, en, tp, vl, by8, bts, szs, nus, fo, be, so, fr, tq, vm, wr, s, kes, ot, asd, ge, tap, bo, szz, nu, mv, rfl, rfl, hR, hk, hc, hT, hS⟩ := hI
  have hq := hR.rt
  cases hxy : (cIn 12 x && cIn 6 y) with
  | false =>
    exact BOI.mk (u3 := W3 E ad (bI kp) r ke tr br li (nI c) sa en tp vl by8 bts szs nus (upd fo 0 (fo 0 + 1))) (u4 := W4 E ad (bI kp) be so (nI c) fr tq vm wr s kes ot asd (upd fo 0 (fo 0 + 1)) ge tap bo szz nu mv) (CI.frm (c_X3_asbad l E (x := x) (y := y) (ox := ad 0) (rr := ad 1) (rk := ad 2) (rt := ad 3) (rb := ad 4) (xt := ad 5) (kp := bI kp) (fo := fo) (h1 := hxy)) [0, 33] [1, 2, 3, 4, 5, 6, 7, 8, 9, 10, 11, 12, 13, 14, 15, 16, 17, 18, 19, 20, 21, 22, 23, 24, 25, 26, 27, 28, 29, 30, 31, 32] [32, 0, 1, 2, 3, 4, 5, 6, 7, 8, 9, 10, 11, 12, 13, 14, 15, 16, 17, 18, 19, 20, 21, 22, 23, 24, 25, 26, 27, 28, 29, 30, 31, 33] rfl 34 rfl (by decide) (by decide) rfl) (CI.frm (c_X4_asbad l E (x := x) (y := y) (o := ad 6) (ik := bI kp) (be := be) (so := so) (tp := nI c) (fr := fr) (tq := tq) (vl := vm) (wr := wr) (stt := fo) (h1 := by rw [cIn_in (n := 12) (by decide), cIn_in (n := 6) (by decide)]; exact hxy)) [0, 5] [1, 2, 3, 4, 6, 7, 8, 9, 10, 11] [10, 0, 1, 2, 3, 11, 4, 5, 6, 7, 8, 9] rfl 12 rfl (by decide) (by decide) rfl) (by rfl) ⟨kp, r, ke, tr, br, li, c, sa, en, tp, vl, by8, bts, szs, nus, upd fo 0 (fo 0 + 1), be, so, fr, tq, vm, wr, s, kes, ot, asd, ge, tap, bo, szz, nu, mv, rfl, rfl, hR, hk, hc, hT, hS⟩
  | true =>
    rw [Bool.and_eq_true] at hxy
    obtain ⟨t, ht, rfl⟩ := cIn_nat (k := 12) (by decide) hxy.1
    obtain ⟨k, hk6, rfl⟩ := cIn_nat (k := 6) (by decide) hxy.2
    obtain ⟨a, ha, ea⟩ := (hq.1.2.2.1 t ht).1
    have eu : ms_und (s (2 + 10 * t)) (nI k) = cU (r.2.2.1 t) (nI k) := by rw [(hq.2.2.2 t ht).1, ea]; exact und_all a (by omega) k hk6
    cases hu : cU (r.2.2.1 t) (nI k) with
    | true =>
      exact BOI.mk (u3 := W3 E ad (bI kp) r ke tr br li (nI c) sa en tp vl by8 bts szs nus fo) (u4 := W4 E ad (bI kp) be so (nI c) fr tq vm wr s kes ot asd fo ge tap bo szz nu mv) (CI.frm (c_X3_asu l E (t := t) (k := k) (r := r) (ox := ad 0) (rr := ad 1) (rk := ad 2) (rt := ad 3) (rb := ad 4) (xt := ad 5) (kp := bI kp) (h1 := ht) (h2 := hk6) (h3 := hu)) [0, 1, 2, 3, 4, 5] [6, 7, 8, 9, 10, 11, 12, 13, 14, 15, 16, 17, 18, 19, 20, 21, 22, 23, 24, 25, 26, 27, 28, 29, 30, 31, 32, 33] [28, 29, 30, 31, 32, 33, 0, 1, 2, 3, 4, 5, 6, 7, 8, 9, 10, 11, 12, 13, 14, 15, 16, 17, 18, 19, 20, 21, 22, 23, 24, 25, 26, 27] rfl 34 rfl (by decide) (by decide) rfl) (CI.frm (c_X4_asu l E (t := t) (k := k) (o := ad 6) (ik := bI kp) (be := be) (so := so) (tp := nI c) (fr := fr) (tq := tq) (vl := vm) (wr := wr) (s := s) (h1 := ht) (h2 := hk6) (h3 := eu.trans hu)) [0, 1] [2, 3, 4, 5, 6, 7, 8, 9, 10, 11] [10, 11, 0, 1, 2, 3, 4, 5, 6, 7, 8, 9] rfl 12 rfl (by decide) (by decide) rfl) (by exact ((hq.2.2.2 t ht).2.1.2 trivial).symm) ⟨kp, r, ke, tr, br, li, c, sa, en, tp, vl, by8, bts, szs, nus, fo, be, so, fr, tq, vm, wr, s, kes, ot, asd, ge, tap, bo, szz, nu, mv, rfl, rfl, hR, hk, hc, hT, hS⟩
    | false =>
      exact BOI.mk (u3 := W3 E ad (bI kp) r ke tr br li (nI c) sa en tp vl by8 bts szs nus (upd fo 2 (fo 2 + 1))) (u4 := W4 E ad (bI kp) be so (nI c) fr tq vm wr s kes ot asd (upd fo 2 (fo 2 + 1)) ge tap bo szz nu mv) (CI.frm (c_X3_asn l E (t := t) (k := k) (r := r) (ox := ad 0) (rr := ad 1) (rk := ad 2) (rt := ad 3) (rb := ad 4) (xt := ad 5) (kp := bI kp) (fo := fo) (h1 := ht) (h2 := hk6) (h3 := hu)) [0, 1, 2, 3, 4, 5, 33] [6, 7, 8, 9, 10, 11, 12, 13, 14, 15, 16, 17, 18, 19, 20, 21, 22, 23, 24, 25, 26, 27, 28, 29, 30, 31, 32] [27, 28, 29, 30, 31, 32, 0, 1, 2, 3, 4, 5, 6, 7, 8, 9, 10, 11, 12, 13, 14, 15, 16, 17, 18, 19, 20, 21, 22, 23, 24, 25, 26, 33] rfl 34 rfl (by decide) (by decide) rfl) (CI.frm (c_X4_asn l E (t := t) (k := k) (o := ad 6) (ik := bI kp) (be := be) (so := so) (tp := nI c) (fr := fr) (tq := tq) (vl := vm) (wr := wr) (s := s) (stt := fo) (h1 := ht) (h2 := hk6) (h3 := eu.trans hu)) [0, 1, 5] [2, 3, 4, 6, 7, 8, 9, 10, 11] [9, 10, 0, 1, 2, 11, 3, 4, 5, 6, 7, 8] rfl 12 rfl (by decide) (by decide) rfl) (by rfl) ⟨kp, r, ke, tr, br, li, c, sa, en, tp, vl, by8, bts, szs, nus, upd fo 2 (fo 2 + 1), be, so, fr, tq, vm, wr, s, kes, ot, asd, ge, tap, bo, szz, nu, mv, rfl, rfl, hR, hk, hc, hT, hS⟩
set_option maxHeartbeats 4000000 in
set_option maxRecDepth 100000 in
theorem t_meet {l : Launch} {E : EV} {ad : Nat → Nat → Nat} {w3 w4 : va_W} (hI : INV E ad w3 w4) (x : Int32) (y : Int32) : BOI l E ad yX3_meet wsX3_meet rmX3_meet yX4_meet wsX4_meet rmX4_meet [.int x, .int y] w3 w4 := by
  obtain ⟨kp, r, ke, tr, br, li, c, sa, en, tp, vl, by8, bts, szs, nus, fo, be, so, fr, tq, vm, wr, s, kes, ot, asd, ge, tap, bo, szz, nu, mv, rfl, rfl, hR, hk, hc, hT, hS⟩ := hI
  have hq := hR.rt
  cases hxy : (cIn 6 x && cTo 1 y) with
  | false =>
    exact BOI.mk (u3 := W3 E ad (bI kp) r ke tr br li (nI c) sa en tp vl by8 bts szs nus (upd fo 0 (fo 0 + 1))) (u4 := W4 E ad (bI kp) be so (nI c) fr tq vm wr s kes ot asd (upd fo 0 (fo 0 + 1)) ge tap bo szz nu mv) (CI.frm (c_X3_meetbad l E (x := x) (y := y) (ox := ad 0) (rr := ad 1) (rk := ad 2) (rt := ad 3) (rb := ad 4) (xt := ad 5) (kp := bI kp) (fo := fo) (h1 := hxy)) [0, 33] [1, 2, 3, 4, 5, 6, 7, 8, 9, 10, 11, 12, 13, 14, 15, 16, 17, 18, 19, 20, 21, 22, 23, 24, 25, 26, 27, 28, 29, 30, 31, 32] [32, 0, 1, 2, 3, 4, 5, 6, 7, 8, 9, 10, 11, 12, 13, 14, 15, 16, 17, 18, 19, 20, 21, 22, 23, 24, 25, 26, 27, 28, 29, 30, 31, 33] rfl 34 rfl (by decide) (by decide) rfl) (CI.frm (c_X4_meetbad l E (x := x) (y := y) (o := ad 6) (ik := bI kp) (be := be) (so := so) (tp := nI c) (fr := fr) (tq := tq) (vl := vm) (wr := wr) (stt := fo) (h1 := by rw [cIn_in (n := 6) (by decide), cTo_in (n := 1) (by decide)]; exact hxy)) [0, 5] [1, 2, 3, 4, 6, 7, 8, 9, 10, 11] [10, 0, 1, 2, 3, 11, 4, 5, 6, 7, 8, 9] rfl 12 rfl (by decide) (by decide) rfl) (by rfl) ⟨kp, r, ke, tr, br, li, c, sa, en, tp, vl, by8, bts, szs, nus, upd fo 0 (fo 0 + 1), be, so, fr, tq, vm, wr, s, kes, ot, asd, ge, tap, bo, szz, nu, mv, rfl, rfl, hR, hk, hc, hT, hS⟩
  | true =>
    rw [Bool.and_eq_true] at hxy
    obtain ⟨pl, hp, rfl⟩ := cIn_nat (k := 6) (by decide) hxy.1
    obtain ⟨v, hv, rfl⟩ := cTo_nat (k := 1) rfl (by omega) hxy.2
    match v, hv with
    | 0, _ =>
      exact BOI.mk (u3 := W3 E ad (bI kp) (av_setI r pl false) ke tr br li (nI c) sa en tp vl by8 bts szs nus fo) (u4 := W4 E ad (bI kp) be so (nI c) fr tq vm wr (ms_meets s pl false) kes ot asd fo ge tap bo szz nu mv) (CI.frm (c_X3_meet0 l E (pl := pl) (r := r) (ox := ad 0) (rr := ad 1) (rk := ad 2) (rt := ad 3) (rb := ad 4) (xt := ad 5) (kp := bI kp) (h1 := hp)) [0, 1, 2, 3, 4, 5] [6, 7, 8, 9, 10, 11, 12, 13, 14, 15, 16, 17, 18, 19, 20, 21, 22, 23, 24, 25, 26, 27, 28, 29, 30, 31, 32, 33] [28, 29, 30, 31, 32, 33, 0, 1, 2, 3, 4, 5, 6, 7, 8, 9, 10, 11, 12, 13, 14, 15, 16, 17, 18, 19, 20, 21, 22, 23, 24, 25, 26, 27] rfl 34 rfl (by decide) (by decide) rfl) (CI.frm (c_X4_meet0 l E (pl := pl) (o := ad 6) (ik := bI kp) (be := be) (so := so) (tp := nI c) (fr := fr) (tq := tq) (vl := vm) (wr := wr) (s := s) (h1 := hp)) [0, 1] [2, 3, 4, 5, 6, 7, 8, 9, 10, 11] [10, 11, 0, 1, 2, 3, 4, 5, 6, 7, 8, 9] rfl 12 rfl (by decide) (by decide) rfl) (by rw [met_tie hq.2]) ⟨kp, av_setI r pl false, ke, tr, br, li, c, sa, en, tp, vl, by8, bts, szs, nus, fo, be, so, fr, tq, vm, wr, ms_meets s pl false, kes, ot, asd, ge, tap, bo, szz, nu, mv, rfl, rfl, (hR.op (fun Y _ h => setI_tie h hp false) rfl), hk, hc, hT, hS⟩
    | 1, _ =>
      exact BOI.mk (u3 := W3 E ad (bI kp) (av_setI r pl true) ke tr br li (nI c) sa en tp vl by8 bts szs nus fo) (u4 := W4 E ad (bI kp) be so (nI c) fr tq vm wr (ms_meets s pl true) kes ot asd fo ge tap bo szz nu mv) (CI.frm (c_X3_meet1 l E (pl := pl) (r := r) (ox := ad 0) (rr := ad 1) (rk := ad 2) (rt := ad 3) (rb := ad 4) (xt := ad 5) (kp := bI kp) (h1 := hp)) [0, 1, 2, 3, 4, 5] [6, 7, 8, 9, 10, 11, 12, 13, 14, 15, 16, 17, 18, 19, 20, 21, 22, 23, 24, 25, 26, 27, 28, 29, 30, 31, 32, 33] [28, 29, 30, 31, 32, 33, 0, 1, 2, 3, 4, 5, 6, 7, 8, 9, 10, 11, 12, 13, 14, 15, 16, 17, 18, 19, 20, 21, 22, 23, 24, 25, 26, 27] rfl 34 rfl (by decide) (by decide) rfl) (CI.frm (c_X4_meet1 l E (pl := pl) (o := ad 6) (ik := bI kp) (be := be) (so := so) (tp := nI c) (fr := fr) (tq := tq) (vl := vm) (wr := wr) (s := s) (h1 := hp)) [0, 1] [2, 3, 4, 5, 6, 7, 8, 9, 10, 11] [10, 11, 0, 1, 2, 3, 4, 5, 6, 7, 8, 9] rfl 12 rfl (by decide) (by decide) rfl) (by rw [met_tie hq.2]) ⟨kp, av_setI r pl true, ke, tr, br, li, c, sa, en, tp, vl, by8, bts, szs, nus, fo, be, so, fr, tq, vm, wr, ms_meets s pl true, kes, ot, asd, ge, tap, bo, szz, nu, mv, rfl, rfl, (hR.op (fun Y _ h => setI_tie h hp true) rfl), hk, hc, hT, hS⟩
    | v + 2, h => exact absurd h (by omega)
set_option maxHeartbeats 4000000 in
set_option maxRecDepth 100000 in
theorem t_tell {l : Launch} {E : EV} {ad : Nat → Nat → Nat} {w3 w4 : va_W} (hI : INV E ad w3 w4) (x : Int32) (y : Int32) : BOI l E ad yX3_tell wsX3_tell rmX3_tell yX4_tell wsX4_tell rmX4_tell [.int x, .int y] w3 w4 := by
  obtain ⟨kp, r, ke, tr, br, li, c, sa, en, tp, vl, by8, bts, szs, nus, fo, be, so, fr, tq, vm, wr, s, kes, ot, asd, ge, tap, bo, szz, nu, mv, rfl, rfl, hR, hk, hc, hT, hS⟩ := hI
  have hq := hR.rt
  cases hxy : (cIn 12 x && cIn 8 y) with
  | false =>
    exact BOI.mk (u3 := W3 E ad (bI kp) r ke tr br li (nI c) sa en tp vl by8 bts szs nus (upd fo 0 (fo 0 + 1))) (u4 := W4 E ad (bI kp) be so (nI c) fr tq vm wr s kes ot asd (upd fo 0 (fo 0 + 1)) ge tap bo szz nu mv) (CI.frm (c_X3_tellbad l E (x := x) (y := y) (ox := ad 0) (rr := ad 1) (rk := ad 2) (rt := ad 3) (rb := ad 4) (xt := ad 5) (kp := bI kp) (fo := fo) (h1 := hxy)) [0, 33] [1, 2, 3, 4, 5, 6, 7, 8, 9, 10, 11, 12, 13, 14, 15, 16, 17, 18, 19, 20, 21, 22, 23, 24, 25, 26, 27, 28, 29, 30, 31, 32] [32, 0, 1, 2, 3, 4, 5, 6, 7, 8, 9, 10, 11, 12, 13, 14, 15, 16, 17, 18, 19, 20, 21, 22, 23, 24, 25, 26, 27, 28, 29, 30, 31, 33] rfl 34 rfl (by decide) (by decide) rfl) (CI.frm (c_X4_tellbad l E (x := x) (y := y) (o := ad 6) (ik := bI kp) (be := be) (so := so) (tp := nI c) (fr := fr) (tq := tq) (vl := vm) (wr := wr) (stt := fo) (h1 := by rw [cIn_in (n := 12) (by decide), cIn_in (n := 8) (by decide)]; exact hxy)) [0, 5] [1, 2, 3, 4, 6, 7, 8, 9, 10, 11] [10, 0, 1, 2, 3, 11, 4, 5, 6, 7, 8, 9] rfl 12 rfl (by decide) (by decide) rfl) (by rfl) ⟨kp, r, ke, tr, br, li, c, sa, en, tp, vl, by8, bts, szs, nus, upd fo 0 (fo 0 + 1), be, so, fr, tq, vm, wr, s, kes, ot, asd, ge, tap, bo, szz, nu, mv, rfl, rfl, hR, hk, hc, hT, hS⟩
  | true =>
    rw [Bool.and_eq_true] at hxy
    obtain ⟨t, ht, rfl⟩ := cIn_nat (k := 12) (by decide) hxy.1
    obtain ⟨m, hm, rfl⟩ := cIn_nat (k := 8) (by decide) hxy.2
    cases hkn : av_k r t m with
    | true =>
      exact BOI.mk (u3 := W3 E ad (bI kp) r ke tr br li (nI c) sa en tp vl by8 bts szs nus (upd fo 4 (fo 4 + 1))) (u4 := W4 E ad (bI kp) be so (nI c) fr tq vm wr s kes ot asd (upd fo 4 (fo 4 + 1)) ge tap bo szz nu mv) (CI.frm (c_X3_tellk l E (t := t) (m := m) (r := r) (ox := ad 0) (rr := ad 1) (rk := ad 2) (rt := ad 3) (rb := ad 4) (xt := ad 5) (kp := bI kp) (fo := fo) (h1 := ht) (h2 := hm) (h3 := hkn)) [0, 1, 2, 3, 4, 5, 33] [6, 7, 8, 9, 10, 11, 12, 13, 14, 15, 16, 17, 18, 19, 20, 21, 22, 23, 24, 25, 26, 27, 28, 29, 30, 31, 32] [27, 28, 29, 30, 31, 32, 0, 1, 2, 3, 4, 5, 6, 7, 8, 9, 10, 11, 12, 13, 14, 15, 16, 17, 18, 19, 20, 21, 22, 23, 24, 25, 26, 33] rfl 34 rfl (by decide) (by decide) rfl) (CI.frm (c_X4_tellk l E (t := t) (m := m) (o := ad 6) (ik := bI kp) (be := be) (so := so) (tp := nI c) (fr := fr) (tq := tq) (vl := vm) (wr := wr) (s := s) (stt := fo) (h1 := ht) (h2 := hm) (h3 := (kt2 hq (by omega) ht hm).trans hkn)) [0, 1, 5] [2, 3, 4, 6, 7, 8, 9, 10, 11] [9, 10, 0, 1, 2, 11, 3, 4, 5, 6, 7, 8] rfl 12 rfl (by decide) (by decide) rfl) (by rfl) ⟨kp, r, ke, tr, br, li, c, sa, en, tp, vl, by8, bts, szs, nus, upd fo 4 (fo 4 + 1), be, so, fr, tq, vm, wr, s, kes, ot, asd, ge, tap, bo, szz, nu, mv, rfl, rfl, hR, hk, hc, hT, hS⟩
    | false =>
      exact BOI.mk (u3 := W3 E ad (bI kp) (av_learn r t m) ke tr br li (nI c) sa en tp vl by8 bts szs nus fo) (u4 := W4 E ad (bI kp) be so (nI c) fr tq vm wr (upd s (2 + 10 * t + (2 + m)) (s 0)) kes ot asd fo ge tap bo szz nu mv) (CI.frm (c_X3_tellu l E (t := t) (m := m) (r := r) (ox := ad 0) (rr := ad 1) (rk := ad 2) (rt := ad 3) (rb := ad 4) (xt := ad 5) (kp := bI kp) (h1 := ht) (h2 := hm) (h3 := hkn)) [0, 1, 2, 3, 4, 5] [6, 7, 8, 9, 10, 11, 12, 13, 14, 15, 16, 17, 18, 19, 20, 21, 22, 23, 24, 25, 26, 27, 28, 29, 30, 31, 32, 33] [28, 29, 30, 31, 32, 33, 0, 1, 2, 3, 4, 5, 6, 7, 8, 9, 10, 11, 12, 13, 14, 15, 16, 17, 18, 19, 20, 21, 22, 23, 24, 25, 26, 27] rfl 34 rfl (by decide) (by decide) rfl) (CI.frm (c_X4_tellu l E (t := t) (m := m) (o := ad 6) (ik := bI kp) (be := be) (so := so) (tp := nI c) (fr := fr) (tq := tq) (vl := vm) (wr := wr) (s := s) (h1 := ht) (h2 := hm) (h3 := (kt2 hq (by omega) ht hm).trans hkn)) [0, 1] [2, 3, 4, 5, 6, 7, 8, 9, 10, 11] [10, 11, 0, 1, 2, 3, 4, 5, 6, 7, 8, 9] rfl 12 rfl (by decide) (by decide) rfl) (by rw [kn_tie (learn_tie hq ht hm) (by omega) hm]) ⟨kp, av_learn r t m, ke, tr, br, li, c, sa, en, tp, vl, by8, bts, szs, nus, fo, be, so, fr, tq, vm, wr, upd s (2 + 10 * t + (2 + m)) (s 0), kes, ot, asd, ge, tap, bo, szz, nu, mv, rfl, rfl, (hR.op (fun Y _ h => learn_tie h ht hm) rfl), hk, hc, hT, hS⟩
set_option maxHeartbeats 4000000 in
set_option maxRecDepth 100000 in
theorem t_forget {l : Launch} {E : EV} {ad : Nat → Nat → Nat} {w3 w4 : va_W} (hI : INV E ad w3 w4) (x : Int32) : BOI l E ad yX3_forget wsX3_forget rmX3_forget yX4_forget wsX4_forget rmX4_forget [.int x] w3 w4 := by
  obtain ⟨kp, r, ke, tr, br, li, c, sa, en, tp, vl, by8, bts, szs, nus, fo, be, so, fr, tq, vm, wr, s, kes, ot, asd, ge, tap, bo, szz, nu, mv, rfl, rfl, hR, hk, hc, hT, hS⟩ := hI
  have hq := hR.rt
  cases hx : cIn 8 x with
  | false =>
    exact BOI.mk (u3 := W3 E ad (bI kp) r ke tr br li (nI c) sa en tp vl by8 bts szs nus (upd fo 0 (fo 0 + 1))) (u4 := W4 E ad (bI kp) be so (nI c) fr tq vm wr s kes ot asd (upd fo 0 (fo 0 + 1)) ge tap bo szz nu mv) (CI.frm (c_X3_forgetbad l E (x := x) (ox := ad 0) (rr := ad 1) (rk := ad 2) (rt := ad 3) (rb := ad 4) (xt := ad 5) (kp := bI kp) (fo := fo) (h1 := hx)) [0, 33] [1, 2, 3, 4, 5, 6, 7, 8, 9, 10, 11, 12, 13, 14, 15, 16, 17, 18, 19, 20, 21, 22, 23, 24, 25, 26, 27, 28, 29, 30, 31, 32] [32, 0, 1, 2, 3, 4, 5, 6, 7, 8, 9, 10, 11, 12, 13, 14, 15, 16, 17, 18, 19, 20, 21, 22, 23, 24, 25, 26, 27, 28, 29, 30, 31, 33] rfl 34 rfl (by decide) (by decide) rfl) (CI.frm (c_X4_forgetbad l E (x := x) (o := ad 6) (ik := bI kp) (be := be) (so := so) (tp := nI c) (fr := fr) (tq := tq) (vl := vm) (wr := wr) (stt := fo) (h1 := by rw [cIn_in (n := 8) (by decide)]; exact hx)) [0, 5] [1, 2, 3, 4, 6, 7, 8, 9, 10, 11] [10, 0, 1, 2, 3, 11, 4, 5, 6, 7, 8, 9] rfl 12 rfl (by decide) (by decide) rfl) (by rfl) ⟨kp, r, ke, tr, br, li, c, sa, en, tp, vl, by8, bts, szs, nus, upd fo 0 (fo 0 + 1), be, so, fr, tq, vm, wr, s, kes, ot, asd, ge, tap, bo, szz, nu, mv, rfl, rfl, hR, hk, hc, hT, hS⟩
  | true =>
    obtain ⟨m, hm, rfl⟩ := cIn_nat (k := 8) (by decide) hx
    exact BOI.mk (u3 := W3 E ad (bI kp) (av_fg r m) ke tr br li (nI c) sa en tp vl by8 bts szs nus fo) (u4 := W4 E ad (bI kp) be so (nI c) fr tq vm wr (ms_fg s m) kes ot asd fo ge tap bo szz nu mv) (CI.frm (c_X3_forgetok l E (m := m) (r := r) (ox := ad 0) (rr := ad 1) (rk := ad 2) (rt := ad 3) (rb := ad 4) (xt := ad 5) (kp := bI kp) (h1 := hm)) [0, 1, 2, 3, 4, 5] [6, 7, 8, 9, 10, 11, 12, 13, 14, 15, 16, 17, 18, 19, 20, 21, 22, 23, 24, 25, 26, 27, 28, 29, 30, 31, 32, 33] [28, 29, 30, 31, 32, 33, 0, 1, 2, 3, 4, 5, 6, 7, 8, 9, 10, 11, 12, 13, 14, 15, 16, 17, 18, 19, 20, 21, 22, 23, 24, 25, 26, 27] rfl 34 rfl (by decide) (by decide) rfl) (CI.frm (c_X4_forgetok l E (m := m) (o := ad 6) (ik := bI kp) (be := be) (so := so) (tp := nI c) (fr := fr) (tq := tq) (vl := vm) (wr := wr) (s := s) (h1 := hm)) [0, 1] [2, 3, 4, 5, 6, 7, 8, 9, 10, 11] [10, 11, 0, 1, 2, 3, 4, 5, 6, 7, 8, 9] rfl 12 rfl (by decide) (by decide) rfl) (by rw [kn_tie hq (by omega) hm]) ⟨kp, av_fg r m, ke, tr, br, li, c, sa, en, tp, vl, by8, bts, szs, nus, fo, be, so, fr, tq, vm, wr, ms_fg s m, kes, ot, asd, ge, tap, bo, szz, nu, mv, rfl, rfl, (hR.op (fun Y _ h => fg_tie h hm) (fg_one r m)), hk, hc, hT, hS⟩
set_option maxHeartbeats 4000000 in
set_option maxRecDepth 100000 in
theorem t_years {l : Launch} {E : EV} {ad : Nat → Nat → Nat} {w3 w4 : va_W} (hI : INV E ad w3 w4) (x : Int32) : BOI l E ad yX3_years wsX3_years rmX3_years yX4_years wsX4_years rmX4_years [.int x] w3 w4 := by
  obtain ⟨kp, r, ke, tr, br, li, c, sa, en, tp, vl, by8, bts, szs, nus, fo, be, so, fr, tq, vm, wr, s, kes, ot, asd, ge, tap, bo, szz, nu, mv, rfl, rfl, hR, hk, hc, hT, hS⟩ := hI
  have hq := hR.rt
  have ey : inI x 1 100 = cYe x := cYe_in (lo := 1) (n := 100) (by decide) (by decide)
  cases hx : cYe x with
  | false =>
    exact BOI.mk (u3 := W3 E ad (bI kp) r ke tr br li (nI c) sa en tp vl by8 bts szs nus (upd fo 0 (fo 0 + 1))) (u4 := W4 E ad (bI kp) be so (nI c) fr tq vm wr s kes ot asd (upd fo 0 (fo 0 + 1)) ge tap bo szz nu mv) (CI.frm (c_X3_yearsbad l E (x := x) (ox := ad 0) (rr := ad 1) (rk := ad 2) (rt := ad 3) (rb := ad 4) (xt := ad 5) (kp := bI kp) (fo := fo) (h1 := hx)) [0, 33] [1, 2, 3, 4, 5, 6, 7, 8, 9, 10, 11, 12, 13, 14, 15, 16, 17, 18, 19, 20, 21, 22, 23, 24, 25, 26, 27, 28, 29, 30, 31, 32] [32, 0, 1, 2, 3, 4, 5, 6, 7, 8, 9, 10, 11, 12, 13, 14, 15, 16, 17, 18, 19, 20, 21, 22, 23, 24, 25, 26, 27, 28, 29, 30, 31, 33] rfl 34 rfl (by decide) (by decide) rfl) (CI.frm (c_X4_yearsbad l E (x := x) (o := ad 6) (ik := bI kp) (be := be) (so := so) (tp := nI c) (fr := fr) (tq := tq) (vl := vm) (wr := wr) (stt := fo) (h1 := ey.trans hx)) [0, 5] [1, 2, 3, 4, 6, 7, 8, 9, 10, 11] [10, 0, 1, 2, 3, 11, 4, 5, 6, 7, 8, 9] rfl 12 rfl (by decide) (by decide) rfl) (by rfl) ⟨kp, r, ke, tr, br, li, c, sa, en, tp, vl, by8, bts, szs, nus, upd fo 0 (fo 0 + 1), be, so, fr, tq, vm, wr, s, kes, ot, asd, ge, tap, bo, szz, nu, mv, rfl, rfl, hR, hk, hc, hT, hS⟩
  | true =>
    obtain ⟨n0, hn1, hn2, rfl⟩ := cYe_nat (n := 100) (k := 100) rfl (by omega) hx
    by_cases hle : r.1 + nI n0 ≤ 9999
    · exact BOI.mk (u3 := W3 E ad (bI kp) (av_ys 255 n0 r) ke tr br li (nI c) sa en tp vl by8 bts szs nus fo) (u4 := W4 E ad (bI kp) be so (nI c) fr tq vm wr (ms_ys n0 s) kes ot asd fo (ms_gs n0 s ge) tap bo szz nu mv) (CI.frm (c_X3_yearsok l E (n0 := n0) (r := r) (ox := ad 0) (rr := ad 1) (rk := ad 2) (rt := ad 3) (rb := ad 4) (xt := ad 5) (kp := bI kp) (h1 := hn1) (h2 := hn2) (h3 := hle)) [0, 1, 2, 3, 4, 5] [6, 7, 8, 9, 10, 11, 12, 13, 14, 15, 16, 17, 18, 19, 20, 21, 22, 23, 24, 25, 26, 27, 28, 29, 30, 31, 32, 33] [28, 29, 30, 31, 32, 33, 0, 1, 2, 3, 4, 5, 6, 7, 8, 9, 10, 11, 12, 13, 14, 15, 16, 17, 18, 19, 20, 21, 22, 23, 24, 25, 26, 27] rfl 34 rfl (by decide) (by decide) rfl) (CI.frm (c_X4_yearsok l E (n0 := n0) (o := ad 6) (ik := bI kp) (be := be) (so := so) (tp := nI c) (fr := fr) (tq := tq) (vl := vm) (wr := wr) (s := s) (ge := ge) (h1 := hn1) (h2 := hn2) (h3 := (by rw [hq.2.1]; exact hle))) [0, 1, 6] [2, 3, 4, 5, 7, 8, 9, 10, 11] [9, 10, 0, 1, 2, 3, 11, 4, 5, 6, 7, 8] rfl 12 rfl (by decide) (by decide) rfl) (by exact home_tie (hq.ys al_bit n0 (by omega)) (by omega)) ⟨kp, av_ys 255 n0 r, ke, tr, br, li, c, sa, en, tp, vl, by8, bts, szs, nus, fo, be, so, fr, tq, vm, wr, ms_ys n0 s, kes, ot, asd, ms_gs n0 s ge, tap, bo, szz, nu, mv, rfl, rfl, (hR.ys hn2 hle), hk, hc, hT, hS⟩
    · exact BOI.mk (u3 := W3 E ad (bI kp) r ke tr br li (nI c) sa en tp vl by8 bts szs nus (upd fo 4 (fo 4 + 1))) (u4 := W4 E ad (bI kp) be so (nI c) fr tq vm wr s kes ot asd (upd fo 4 (fo 4 + 1)) ge tap bo szz nu mv) (CI.frm (c_X3_yearsst l E (n0 := n0) (r := r) (ox := ad 0) (rr := ad 1) (rk := ad 2) (rt := ad 3) (rb := ad 4) (xt := ad 5) (kp := bI kp) (fo := fo) (h1 := hn1) (h2 := hn2) (h3 := hle)) [0, 1, 2, 3, 4, 5, 33] [6, 7, 8, 9, 10, 11, 12, 13, 14, 15, 16, 17, 18, 19, 20, 21, 22, 23, 24, 25, 26, 27, 28, 29, 30, 31, 32] [27, 28, 29, 30, 31, 32, 0, 1, 2, 3, 4, 5, 6, 7, 8, 9, 10, 11, 12, 13, 14, 15, 16, 17, 18, 19, 20, 21, 22, 23, 24, 25, 26, 33] rfl 34 rfl (by decide) (by decide) rfl) (CI.frm (c_X4_yearsst l E (n0 := n0) (o := ad 6) (ik := bI kp) (be := be) (so := so) (tp := nI c) (fr := fr) (tq := tq) (vl := vm) (wr := wr) (s := s) (stt := fo) (h1 := hn1) (h2 := hn2) (h3 := (by rw [hq.2.1]; exact hle))) [0, 1, 5] [2, 3, 4, 6, 7, 8, 9, 10, 11] [9, 10, 0, 1, 2, 11, 3, 4, 5, 6, 7, 8] rfl 12 rfl (by decide) (by decide) rfl) (by rfl) ⟨kp, r, ke, tr, br, li, c, sa, en, tp, vl, by8, bts, szs, nus, upd fo 4 (fo 4 + 1), be, so, fr, tq, vm, wr, s, kes, ot, asd, ge, tap, bo, szz, nu, mv, rfl, rfl, hR, hk, hc, hT, hS⟩
