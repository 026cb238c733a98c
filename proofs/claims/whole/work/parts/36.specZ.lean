/-! ===== the class's text: one item, all items ===== -/
def x_kP (b : Nat → Int32) (q : XQ) (k : Nat) : Bool := x_wOK b k q
def x_kf (b : Nat → Int32) (q : XQ) : Nat := ff (x_kP b q) 6 0
def x_it (b : Nat → Int32) (c : Nat) (v : AV) (q : XQ) : Bool × XQ × AV :=
  if x_kf b q < 6 then x_tr b c v (nI (x_kf b q)) (x_tw b c (x_kf b q) q)
  else if x_wOK b 8 q then (decide (0 ≤ x_nr 5 (x_tw b c 8 q)), x_tn b c 5 (x_tw b c 8 q), x_pV v (x_tw b c 8 q) false)
  else if x_wOK b 9 q then (decide (0 ≤ x_nr 5 (x_tw b c 9 q)), x_tn b c 5 (x_tw b c 9 q), x_pV v (x_tw b c 9 q) true)
  else if x_wOK b 10 q then (x_mB b c (x_tw b c 10 q), x_mQ b c (x_tw b c 10 q), x_mV b c v (x_tw b c 10 q))
  else (false, q, v)
theorem ok_mq {b : Nat → Int32} {c : Nat} {q : XQ} (h : XOK c q) (hc : c ≤ 120) : XOK c (x_mQ b c q) := by
  unfold x_mQ
  split
  · exact ok_tn (ok_tn h hc) hc
  · exact ok_tn h hc
theorem ok_it {b : Nat → Int32} {c : Nat} {v : AV} {q : XQ} (h : XOK c q) (hc : c ≤ 120) : XOK c (x_it b c v q).2.1 := by
  unfold x_it
  split
  · exact ok_tr (ok_tw h hc) hc
  · split
    · exact ok_tn (ok_tw h hc) hc
    · split
      · exact ok_tn (ok_tw h hc) hc
      · split
        · exact ok_mq (ok_tw h hc) hc
        · exact h
section GSr
variable {E : EV} {X : CX} {own : String} {cc : ByteArray} {nL : Nat} {rt : Option FieldType} {Ts : List Cond} {rm : Room} {pc : Nat} {lv lv' : List (Nat × Value)} {st : List Value} {ws ws' : va_W}
theorem G.s0r (hX : Cx E X own cc nL rt Ts rm) {index maxL n : Nat} {C : String} {y : MethodName} {wy : List Cond} {ry : Room} {As : List Value} {r : Nat} {st0 : List Value} (hM : CR X.2.1 y wy ry E As [] [] r) (hG : GoodIn Ts (va_wsS own index y wy)) (hcp : CP y C wy maxL n ry) (hRR : ry.frames + 1 ≤ rm.frames ∧ 8 + (maxL + 11) + ry.locals ≤ rm.locals) (hst : st0 = As.reverse ++ st) (hn : As.length = n) (hrs0 : (st.map fun v => v.category).sum ≤ 8) (hd : decode cc pc = .ok (.invokestatic index, 3)) (k : G E X nL (pc + 3) lv (.ref r :: st) ws) : G E X nL pc lv st0 ws := G.sr hX hM hG hcp hRR [] (List.range ws.length) (List.range ws.length) ⟨rfl, g_all ws, ⟨rfl, g_nd _, g_nd _, fun _ _ h => by cases h⟩, by rw [List.append_nil]; exact g_all ws⟩ hst hn hrs0 hd k
end GSr
