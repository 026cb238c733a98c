/-! ===== cells, small rows ===== -/
abbrev arI (E : EV) (n : Nat) (f : Nat → Int32) : va_E := .inl (E.2.1 0, n, .inl f)
abbrev arJ (E : EV) (n : Nat) (f : Nat → Int64) : va_E := .inl (E.2.1 1, n, .inr (.inl f))
abbrev arB (E : EV) (n : Nat) (f : Nat → Int32) : va_E := .inl (E.2.1 2, n, .inl f)
abbrev arO (E : EV) (n : Nat) (f : Nat → Option Nat) : va_E := .inl (E.2.1 3, n, .inr (.inr (.inr (.inr f))))
abbrev avO (a : Nat → Nat) (y p : Int32) : va_E := .inr (0, [.int y, .int p, .ref (a 1), .ref (a 2), .ref (a 3), .ref (a 4)])
abbrev shO (a : Nat → Nat) (bt sz : Int32) : va_E := .inr (1, [.int bt, .int sz, .ref (a 1)])
abbrev txO (a : Nat → Nat) (ln sa en tp vl : Int32) : va_E := .inr (2, [.int ln, .ref (a 1), .int sa, .int en, .int tp, .int vl])
abbrev noO (a rr rk rt rb xt : Nat → Nat) (kp : Int32) : va_E := .inr (3, [.ref (rr 0), .ref (rk 0), .ref (rt 0), .ref (rb 0), .ref (a 1), .ref (xt 0), .ref (a 2), .ref (a 3), .int kp])
abbrev moO (a : Nat → Nat) (ik be so tp fr tq vl wr : Int32) : va_E := .inr (4, [.ref (a 1), .ref (a 2), .ref (a 3), .ref (a 4), .ref (a 5), .int ik, .ref (a 6), .int be, .int so, .ref (a 7), .int tp, .int fr, .int tq, .int vl, .int wr, .ref (a 8), .ref (a 9), .ref (a 10), .ref (a 11)])
/-- the row of sheets -/
def shF (h : Nat → Nat → Nat) : Nat → Option Nat := fun i => if i < 4 then some (h i 0) else none
theorem shF_at {h : Nat → Nat → Nat} {j : Nat} (hj : j < 4) : va_rf (shF h j) = .ref (h j 0) := by rw [shF, if_pos hj]; rfl
/-- a loop that counts up -/
def it {α : Type} (f : Nat → α → α) : Nat → α → α
  | 0, a => a
  | n + 1, a => f n (it f n a)
theorem it_0 {α : Type} (f : Nat → α → α) (a : α) : it f 0 a = a := rfl
theorem it_s {α : Type} (f : Nat → α → α) (n : Nat) (a : α) : it f (n + 1) a = f n (it f n a) := rfl
theorem bI_f (b : Bool) : fits .boolean (.int (bI b)) = true := by cases b <;> rfl
theorem ne_toInt {x y : Int32} (h : ¬ x = y) : x.toInt ≠ y.toInt := fun e => h (Int32.toInt_inj.mp e)
theorem dec_nI (a k : Nat) (h : k ≤ a) {n : Int} (hn : n = -(k : Int)) : nI a + Int32.ofInt n = nI (a - k) := by
  subst hn
  obtain ⟨b, rfl⟩ : ∃ b, a = b + k := ⟨a - k, by omega⟩
  have e : nI (b + k) = nI b + nI k := (nI_add b k).symm
  rw [Nat.add_sub_cancel, e, Int32.ofInt_neg]
  have e2 : Int32.ofInt (k : Int) = nI k := rfl
  rw [e2, Int32.add_assoc, Int32.add_comm (nI k), Int32.add_left_neg, Int32.add_zero]
theorem inc_nI (a k : Nat) {n : Int} (hn : n = (k : Int)) : nI a + Int32.ofInt n = nI (a + k) := by
  subst hn
  exact nI_add a k
theorem lc_eq {x y : Int64} : lg_cmp x y = 0 ↔ x = y := by
  unfold lg_cmp
  by_cases h : x > y
  · have : ¬ x = y := fun e => by subst e; exact Int64.lt_irrefl h
    simp [h, this]
  · by_cases h2 : x = y
    · simp [h2, Int64.lt_irrefl]
    · simp [h, h2]
theorem lc_lt {x y : Int64} : lg_cmp x y < 0 ↔ x < y := by
  unfold lg_cmp
  by_cases h : x > y
  · have : ¬ x < y := fun e => Int64.lt_irrefl (Int64.lt_trans e h)
    simp [h, this]
  · by_cases h2 : x = y
    · simp [h2, Int64.lt_irrefl]
    · have h3 : x < y := Int64.lt_of_le_of_ne (Int64.not_lt.mp h) h2
      simp [h, h2, h3]
theorem lc_gt {x y : Int64} : 0 < lg_cmp x y ↔ y < x := by
  unfold lg_cmp
  by_cases h : x > y
  · have : y < x := h
    simp [h]
  · have h1 : ¬ y < x := h
    by_cases h2 : x = y
    · simp [h2, Int64.lt_irrefl]
    · simp [h1, h2]
theorem lc_ge {x y : Int64} : 0 ≤ lg_cmp x y ↔ y ≤ x := by
  rw [← Int32.not_lt, ← Int64.not_lt, lc_lt]
theorem lc_le {x y : Int64} : lg_cmp x y ≤ 0 ↔ x ≤ y := by
  rw [← Int32.not_lt, ← Int64.not_lt, lc_gt]
section GR2
variable {E : EV} {X : CX} {own : String} {cc : ByteArray} {nL : Nat} {rt : Option FieldType} {Ts : List Cond} {rm : Room} {pc : Nat} {lv lv' : List (Nat × Value)} {st : List Value} {ws ws' : va_W}
theorem G.c_eq (hX : Cx E X own cc nL rt Ts rm) {x y : Int64} {off : Int} {tgt : Nat} (ht : (pc : Int) + off = (tgt : Int)) (hd : decode cc pc = .ok (.ifCond .eq off, 3)) (kt : x = y → G E X nL tgt lv st ws) (kf : ¬ x = y → G E X nL (pc + 3) lv st ws) : G E X nL pc lv (.int (lg_cmp x y) :: st) ws := G.if_eq hX ht hd (fun h => kt (lc_eq.mp h)) (fun h => kf (fun e => h (lc_eq.mpr e)))
theorem G.c_ne (hX : Cx E X own cc nL rt Ts rm) {x y : Int64} {off : Int} {tgt : Nat} (ht : (pc : Int) + off = (tgt : Int)) (hd : decode cc pc = .ok (.ifCond .ne off, 3)) (kt : ¬ x = y → G E X nL tgt lv st ws) (kf : x = y → G E X nL (pc + 3) lv st ws) : G E X nL pc lv (.int (lg_cmp x y) :: st) ws := G.if_ne hX ht hd (fun h => kt (fun e => h (lc_eq.mpr e))) (fun h => kf (lc_eq.mp h))
theorem G.c_lt (hX : Cx E X own cc nL rt Ts rm) {x y : Int64} {off : Int} {tgt : Nat} (ht : (pc : Int) + off = (tgt : Int)) (hd : decode cc pc = .ok (.ifCond .lt off, 3)) (kt : x < y → G E X nL tgt lv st ws) (kf : ¬ x < y → G E X nL (pc + 3) lv st ws) : G E X nL pc lv (.int (lg_cmp x y) :: st) ws := G.if_lt hX ht hd (fun h => kt (lc_lt.mp h)) (fun h => kf (fun e => h (lc_lt.mpr e)))
theorem G.c_ge (hX : Cx E X own cc nL rt Ts rm) {x y : Int64} {off : Int} {tgt : Nat} (ht : (pc : Int) + off = (tgt : Int)) (hd : decode cc pc = .ok (.ifCond .ge off, 3)) (kt : y ≤ x → G E X nL tgt lv st ws) (kf : ¬ y ≤ x → G E X nL (pc + 3) lv st ws) : G E X nL pc lv (.int (lg_cmp x y) :: st) ws := G.if_ge hX ht hd (fun h => kt (lc_ge.mp h)) (fun h => kf (fun e => h (lc_ge.mpr e)))
theorem G.c_gt (hX : Cx E X own cc nL rt Ts rm) {x y : Int64} {off : Int} {tgt : Nat} (ht : (pc : Int) + off = (tgt : Int)) (hd : decode cc pc = .ok (.ifCond .gt off, 3)) (kt : y < x → G E X nL tgt lv st ws) (kf : ¬ y < x → G E X nL (pc + 3) lv st ws) : G E X nL pc lv (.int (lg_cmp x y) :: st) ws := G.if_gt hX ht hd (fun h => kt (lc_gt.mp h)) (fun h => kf (fun e => h (lc_gt.mpr e)))
theorem G.c_le (hX : Cx E X own cc nL rt Ts rm) {x y : Int64} {off : Int} {tgt : Nat} (ht : (pc : Int) + off = (tgt : Int)) (hd : decode cc pc = .ok (.ifCond .le off, 3)) (kt : x ≤ y → G E X nL tgt lv st ws) (kf : ¬ x ≤ y → G E X nL (pc + 3) lv st ws) : G E X nL pc lv (.int (lg_cmp x y) :: st) ws := G.if_le hX ht hd (fun h => kt (lc_le.mp h)) (fun h => kf (fun e => h (lc_le.mpr e)))
theorem G.z_eq (hX : Cx E X own cc nL rt Ts rm) {a : Nat} {off : Int} {tgt : Nat} (ha : a < 2 ^ 31) (ht : (pc : Int) + off = (tgt : Int)) (hd : decode cc pc = .ok (.ifCond .eq off, 3)) (kt : a = 0 → G E X nL tgt lv st ws) (kf : a ≠ 0 → G E X nL (pc + 3) lv st ws) : G E X nL pc lv (.int (nI a) :: st) ws := G.if_eq hX ht hd (fun h => kt ((nI_eq (b := 0) ha (by omega)).mp h)) (fun h => kf (fun e => h (by rw [e]; rfl)))
theorem G.z_ne (hX : Cx E X own cc nL rt Ts rm) {a : Nat} {off : Int} {tgt : Nat} (ha : a < 2 ^ 31) (ht : (pc : Int) + off = (tgt : Int)) (hd : decode cc pc = .ok (.ifCond .ne off, 3)) (kt : a ≠ 0 → G E X nL tgt lv st ws) (kf : a = 0 → G E X nL (pc + 3) lv st ws) : G E X nL pc lv (.int (nI a) :: st) ws := G.if_ne hX ht hd (fun h => kt (fun e => h (by rw [e]; rfl))) (fun h => kf ((nI_eq (b := 0) ha (by omega)).mp h))
theorem va_P.ext {D : va_G} {cl : List vw_C} {H : Heap} {a n q0 : Nat} {cA : ClassId} {f g : Nat → Int32} (hP : va_P D cl ws H) (ha : ws[q0]? = some (a, .inl (cA, n, .inl f))) (hfg : ∀ j, j < n → f j = g j) : va_P D cl (ws.set q0 (a, .inl (cA, n, .inl g))) H := by
  have hc : vp_cell cA (n, .inl f) = vp_cell cA (n, .inl g) := by
    rw [vp_cell_i, vp_cell_i, arrV, arrV]
    have e : (Array.ofFn (n := n) fun j => Value.int (f j.val)) = Array.ofFn (n := n) fun j => Value.int (g j.val) := by
      congr 1
      funext j
      rw [hfg j.val j.isLt]
    rw [e]
  intro k q hk
  rw [List.getElem?_set] at hk
  by_cases h : q0 = k
  · rw [if_pos h] at hk
    by_cases h2 : q0 < ws.length
    · rw [if_pos h2] at hk
      cases hk
      have := hP q0 _ ha
      show H[a]? = some (vp_cell cA (n, .inl g))
      rw [← hc]
      exact this
    · rw [if_neg h2] at hk
      cases hk
  · rw [if_neg h] at hk
    exact hP k q hk
theorem va_P.extL {D : va_G} {cl : List vw_C} {H : Heap} {a n q0 : Nat} {cA : ClassId} {f g : Nat → Int64} (hP : va_P D cl ws H) (ha : ws[q0]? = some (a, .inl (cA, n, .inr (.inl f)))) (hfg : ∀ j, j < n → f j = g j) : va_P D cl (ws.set q0 (a, .inl (cA, n, .inr (.inl g)))) H := by
  have hc : vp_cell cA (n, .inr (.inl f)) = vp_cell cA (n, .inr (.inl g)) := by
    rw [vp_cell_l, vp_cell_l, arrV, arrV]
    have e : (Array.ofFn (n := n) fun j => Value.long (f j.val)) = Array.ofFn (n := n) fun j => Value.long (g j.val) := by
      congr 1
      funext j
      rw [hfg j.val j.isLt]
    rw [e]
  intro k q hk
  rw [List.getElem?_set] at hk
  by_cases h : q0 = k
  · rw [if_pos h] at hk
    by_cases h2 : q0 < ws.length
    · rw [if_pos h2] at hk
      cases hk
      have := hP q0 _ ha
      show H[a]? = some (vp_cell cA (n, .inr (.inl g)))
      rw [← hc]
      exact this
    · rw [if_neg h2] at hk
      cases hk
  · rw [if_neg h] at hk
    exact hP k q hk
/-- what a row of ints holds behind its end counts for nothing -/
theorem G.ext {a n : Nat} {f g : Nat → Int32} (q0 : Nat) (ha : ws[q0]? = some (a, arI E n f)) (hfg : ∀ j, j < n → f j = g j) (hw : ws.set q0 (a, arI E n g) = ws') (k : G E X nL pc lv st ws') : G E X nL pc lv st ws := by
  subst hw
  intro H locs ls hP hD hS hl
  exact k H locs ls (hP.ext ha hfg) (hD.set ha) hS hl
theorem G.extL {a n : Nat} {f g : Nat → Int64} (q0 : Nat) (ha : ws[q0]? = some (a, arJ E n f)) (hfg : ∀ j, j < n → f j = g j) (hw : ws.set q0 (a, arJ E n g) = ws') (k : G E X nL pc lv st ws') : G E X nL pc lv st ws := by
  subst hw
  intro H locs ls hP hD hS hl
  exact k H locs ls (hP.extL ha hfg) (hD.set ha) hS hl
end GR2
