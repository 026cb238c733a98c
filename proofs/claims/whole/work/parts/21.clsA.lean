abbrev rmJ6_bitCount_0f7a4 : Room := { frames := 0, cells := 0, slots := 0, locals := 0 }
theorem cp_J6_bitCount_0f7a4 : CP yJ6_bitCount_0f7a4 RJ6 wsJ6_bitCount_0f7a4 1 1 rmJ6_bitCount_0f7a4 := ⟨⟨_, _, _, rfl⟩, rfl, rfl, by decide +kernel⟩
set_option maxHeartbeats 4000000 in
set_option maxRecDepth 100000 in
theorem c_J6_bitCount_0f7a4 (l : Launch) (E : EV) (x : Int32)  : CI l yJ6_bitCount_0f7a4 wsJ6_bitCount_0f7a4 rmJ6_bitCount_0f7a4 E [.int x] [] [] (bcI x) := by
  refine CI.of (own := RJ6) (cc := cJ6_bitCount_0f7a4) (nL := 1) (rt := (some .int)) (by decide) rfl rfl (Nat.le_of_ble_eq_true rfl) (fun X hX hQ => ?_)
  show G E X 1 0 [(0, .int x)] [] []
  refine G.iload_n hX 0 rfl dJ6_bitCount_0f7a4_0 ?_
  refine G.iload_n hX 0 rfl dJ6_bitCount_0f7a4_1 ?_
  refine G.iconst hX (v := 1) (by decide) dJ6_bitCount_0f7a4_2 ?_
  refine G.iushr hX dJ6_bitCount_0f7a4_3 ?_
  refine G.ldcw hX (v := 1431655765) (by decide +kernel) dJ6_bitCount_0f7a4_4 ?_
  refine G.iand hX dJ6_bitCount_0f7a4_7 ?_
  refine G.isub hX dJ6_bitCount_0f7a4_8 ?_
  refine G.ie (y := bc1 x) (by rfl) ?_
  refine G.istore_n hX (lv' := [(0, .int (bc1 x))]) rfl (by decide) rfl dJ6_bitCount_0f7a4_9 ?_
  refine G.iload_n hX 0 rfl dJ6_bitCount_0f7a4_10 ?_
  refine G.ldcw hX (v := 858993459) (by decide +kernel) dJ6_bitCount_0f7a4_11 ?_
  refine G.iand hX dJ6_bitCount_0f7a4_14 ?_
  refine G.iload_n hX 0 rfl dJ6_bitCount_0f7a4_15 ?_
  refine G.iconst hX (v := 2) (by decide) dJ6_bitCount_0f7a4_16 ?_
  refine G.iushr hX dJ6_bitCount_0f7a4_17 ?_
  refine G.ldcw hX (v := 858993459) (by decide +kernel) dJ6_bitCount_0f7a4_18 ?_
  refine G.iand hX dJ6_bitCount_0f7a4_21 ?_
  refine G.iadd hX dJ6_bitCount_0f7a4_22 ?_
  refine G.ie (y := bc2 (bc1 x)) (by rfl) ?_
  refine G.istore_n hX (lv' := [(0, .int (bc2 (bc1 x)))]) rfl (by decide) rfl dJ6_bitCount_0f7a4_23 ?_
  refine G.iload_n hX 0 rfl dJ6_bitCount_0f7a4_24 ?_
  refine G.iload_n hX 0 rfl dJ6_bitCount_0f7a4_25 ?_
  refine G.iconst hX (v := 4) (by decide) dJ6_bitCount_0f7a4_26 ?_
  refine G.iushr hX dJ6_bitCount_0f7a4_27 ?_
  refine G.iadd hX dJ6_bitCount_0f7a4_28 ?_
  refine G.ldcw hX (v := 252645135) (by decide +kernel) dJ6_bitCount_0f7a4_29 ?_
  refine G.iand hX dJ6_bitCount_0f7a4_32 ?_
  refine G.ie (y := bc3 (bc2 (bc1 x))) (by rfl) ?_
  refine G.istore_n hX (lv' := [(0, .int (bc3 (bc2 (bc1 x))))]) rfl (by decide) rfl dJ6_bitCount_0f7a4_33 ?_
  refine G.iload_n hX 0 rfl dJ6_bitCount_0f7a4_34 ?_
  refine G.iload_n hX 0 rfl dJ6_bitCount_0f7a4_35 ?_
  refine G.bipush hX (v := 8) (by decide) dJ6_bitCount_0f7a4_36 ?_
  refine G.iushr hX dJ6_bitCount_0f7a4_38 ?_
  refine G.iadd hX dJ6_bitCount_0f7a4_39 ?_
  refine G.ie (y := bc4 (bc3 (bc2 (bc1 x)))) (by rfl) ?_
  refine G.istore_n hX (lv' := [(0, .int (bc4 (bc3 (bc2 (bc1 x)))))]) rfl (by decide) rfl dJ6_bitCount_0f7a4_40 ?_
  refine G.iload_n hX 0 rfl dJ6_bitCount_0f7a4_41 ?_
  refine G.iload_n hX 0 rfl dJ6_bitCount_0f7a4_42 ?_
  refine G.bipush hX (v := 16) (by decide) dJ6_bitCount_0f7a4_43 ?_
  refine G.iushr hX dJ6_bitCount_0f7a4_45 ?_
  refine G.iadd hX dJ6_bitCount_0f7a4_46 ?_
  refine G.ie (y := bc5 (bc4 (bc3 (bc2 (bc1 x))))) (by rfl) ?_
  refine G.istore_n hX (lv' := [(0, .int (bc5 (bc4 (bc3 (bc2 (bc1 x))))))]) rfl (by decide) rfl dJ6_bitCount_0f7a4_47 ?_
  refine G.iload_n hX 0 rfl dJ6_bitCount_0f7a4_48 ?_
  refine G.bipush hX (v := 63) (by decide) dJ6_bitCount_0f7a4_49 ?_
  refine G.iand hX dJ6_bitCount_0f7a4_51 ?_
  exact G.iret hX hQ dJ6_bitCount_0f7a4_52 (by rfl) (by rfl)
abbrev rmX3_treeAt : Room := { frames := 0, cells := 0, slots := 0, locals := 0 }
theorem cp_X3_treeAt : CP yX3_treeAt RX3 wsX3_treeAt 2 2 rmX3_treeAt := ⟨⟨_, _, _, rfl⟩, rfl, rfl, by decide +kernel⟩
set_option maxHeartbeats 4000000 in
set_option maxRecDepth 100000 in
theorem c_X3_treeAt (l : Launch) (E : EV) (u : Nat) (v : Nat)  : CI l yX3_treeAt wsX3_treeAt rmX3_treeAt E [.int (nI u), .int (nI v)] [] [] (nI (2 * u + v)) := by
  refine CI.of (own := RX3) (cc := cX3_treeAt) (nL := 2) (rt := (some .int)) (by decide) rfl rfl (Nat.le_of_ble_eq_true rfl) (fun X hX hQ => ?_)
  show G E X 2 0 [(0, .int (nI u)), (1, .int (nI v))] [] []
  refine G.iconst hX (v := 2) (by decide) dX3_treeAt_0 ?_
  refine G.iload_n hX 0 rfl dX3_treeAt_1 ?_
  refine G.imul hX dX3_treeAt_2 ?_
  refine G.ie (pk_mul 2 u) ?_
  refine G.iload_n hX 1 rfl dX3_treeAt_3 ?_
  refine G.iadd hX dX3_treeAt_4 ?_
  refine G.ie (nI_add (2 * u) v) ?_
  exact G.iret hX hQ dX3_treeAt_5 (by first | rfl | (simp only [↓reduceIte, Bool.not_true, Bool.not_false, Bool.and_true, Bool.true_and, Bool.and_false, Bool.false_and, Bool.or_true, Bool.true_or, Bool.or_false, Bool.false_or, decide_true, decide_false, not_true_eq_false, not_false_eq_true, Bool.false_eq_true, Bool.true_eq_false]; done) | (simp only [↓reduceIte, Bool.not_true, Bool.not_false, Bool.and_true, Bool.true_and, Bool.and_false, Bool.false_and, Bool.or_true, Bool.true_or, Bool.or_false, Bool.false_or, decide_true, decide_false, not_true_eq_false, not_false_eq_true, Bool.false_eq_true, Bool.true_eq_false]; rfl) | (simp []; done)) (by rfl)
abbrev rmX0_become : Room := { frames := 1, cells := 0, slots := 0, locals := 80 }
theorem cp_X0_become : CP yX0_become RX0 wsX0_become 2 1 rmX0_become := ⟨⟨_, _, _, rfl⟩, rfl, rfl, by decide +kernel⟩
theorem inc_X0_become_0 : ∀ w ∈ u_ws RX0 TX0 6, w ∈ wsX0_become := by decide +kernel
set_option maxHeartbeats 4000000 in
set_option maxRecDepth 100000 in
theorem c_X0_become (l : Launch) (E : EV) (q : AV) (w : AV) (a : Nat → Nat) (b : Nat → Nat)  : CV l yX0_become wsX0_become rmX0_become E [.ref (a 0), .ref (b 0)] [(a 0, avO a q.1 q.2.1), (a 1, arI E 12 q.2.2.1), (a 2, arI E 12 q.2.2.2.1), (a 3, arI E 12 q.2.2.2.2.1), (a 4, arI E 96 q.2.2.2.2.2), (b 0, avO b w.1 w.2.1), (b 1, arI E 12 w.2.2.1), (b 2, arI E 12 w.2.2.2.1), (b 3, arI E 12 w.2.2.2.2.1), (b 4, arI E 96 w.2.2.2.2.2)] [(a 0, avO a w.1 w.2.1), (a 1, arI E 12 w.2.2.1), (a 2, arI E 12 w.2.2.2.1), (a 3, arI E 12 w.2.2.2.2.1), (a 4, arI E 96 w.2.2.2.2.2), (b 0, avO b w.1 w.2.1), (b 1, arI E 12 w.2.2.1), (b 2, arI E 12 w.2.2.2.1), (b 3, arI E 12 w.2.2.2.2.1), (b 4, arI E 96 w.2.2.2.2.2)] := by
  refine CV.of (own := RX0) (cc := cX0_become) (nL := 2) (rt := none) (by decide) rfl rfl (Nat.le_of_ble_eq_true rfl) (fun X hX hQ => ?_)
  show G E X 2 0 [(0, .ref (a 0)), (1, .ref (b 0))] [] [(a 0, avO a q.1 q.2.1), (a 1, arI E 12 q.2.2.1), (a 2, arI E 12 q.2.2.2.1), (a 3, arI E 12 q.2.2.2.2.1), (a 4, arI E 96 q.2.2.2.2.2), (b 0, avO b w.1 w.2.1), (b 1, arI E 12 w.2.2.1), (b 2, arI E 12 w.2.2.2.1), (b 3, arI E 12 w.2.2.2.2.1), (b 4, arI E 96 w.2.2.2.2.2)]
  refine G.aload_n hX 0 rfl dX0_become_0 ?_
  refine G.aload_n hX 1 rfl dX0_become_1 ?_
  refine G.get hX inc_X0_become_0 5 rfl rfl 0 (by decide) (by decide +kernel) rfl dX0_become_2 ?_
  refine G.put hX (ws' := [(a 0, avO a w.1 q.2.1), (a 1, arI E 12 q.2.2.1), (a 2, arI E 12 q.2.2.2.1), (a 3, arI E 12 q.2.2.2.2.1), (a 4, arI E 96 q.2.2.2.2.2), (b 0, avO b w.1 w.2.1), (b 1, arI E 12 w.2.2.1), (b 2, arI E 12 w.2.2.2.1), (b 3, arI E 12 w.2.2.2.2.1), (b 4, arI E 96 w.2.2.2.2.2)]) inc_X0_become_0 tyX0 tyX0_ok nmX0 0 rfl rfl 0 (by decide) (by decide +kernel) rfl (tyX0_ok 0 (by decide)) rfl rfl (Nat.le_of_ble_eq_true rfl) rfl rfl dX0_become_5 ?_
  refine G.aload_n hX 0 rfl dX0_become_8 ?_
  refine G.aload_n hX 1 rfl dX0_become_9 ?_
  refine G.get hX inc_X0_become_0 5 rfl rfl 1 (by decide) (by decide +kernel) rfl dX0_become_10 ?_
  refine G.put hX (ws' := [(a 0, avO a w.1 w.2.1), (a 1, arI E 12 q.2.2.1), (a 2, arI E 12 q.2.2.2.1), (a 3, arI E 12 q.2.2.2.2.1), (a 4, arI E 96 q.2.2.2.2.2), (b 0, avO b w.1 w.2.1), (b 1, arI E 12 w.2.2.1), (b 2, arI E 12 w.2.2.2.1), (b 3, arI E 12 w.2.2.2.2.1), (b 4, arI E 96 w.2.2.2.2.2)]) inc_X0_become_0 tyX0 tyX0_ok nmX0 0 rfl rfl 1 (by decide) (by decide +kernel) rfl (tyX0_ok 1 (by decide)) rfl rfl (Nat.le_of_ble_eq_true rfl) rfl rfl dX0_become_13 ?_
  refine G.aload_n hX 1 rfl dX0_become_16 ?_
  refine G.get hX inc_X0_become_0 5 rfl rfl 2 (by decide) (by decide +kernel) rfl dX0_become_17 ?_
  refine G.iconst hX (v := 0) (by decide) dX0_become_20 ?_
  refine G.aload_n hX 0 rfl dX0_become_21 ?_
  refine G.get hX inc_X0_become_0 0 rfl rfl 2 (by decide) (by decide +kernel) rfl dX0_become_22 ?_
  refine G.iconst hX (v := 0) (by decide) dX0_become_25 ?_
  refine G.bipush hX (v := 12) (by decide) dX0_become_26 ?_
  refine G.copyi hX (n := 12) (dp := 0) (sp := 0) (ws' := [(a 0, avO a w.1 w.2.1), (a 1, arI E 12 (va_cpy w.2.2.1 q.2.2.1 0 0 12)), (a 2, arI E 12 q.2.2.2.1), (a 3, arI E 12 q.2.2.2.2.1), (a 4, arI E 96 q.2.2.2.2.2), (b 0, avO b w.1 w.2.1), (b 1, arI E 12 w.2.2.1), (b 2, arI E 12 w.2.2.2.1), (b 3, arI E 12 w.2.2.2.2.1), (b 4, arI E 96 w.2.2.2.2.2)]) (by decide +kernel) (by decide +kernel) (by decide +kernel) (by decide +kernel) 6 1 rfl rfl (by omega) (by omega) (by omega) (by omega) (by decide) (Nat.le_of_ble_eq_true rfl) rfl rfl dX0_become_28 ?_
  refine G.ext (g := w.2.2.1) (ws' := [(a 0, avO a w.1 w.2.1), (a 1, arI E 12 w.2.2.1), (a 2, arI E 12 q.2.2.2.1), (a 3, arI E 12 q.2.2.2.2.1), (a 4, arI E 96 q.2.2.2.2.2), (b 0, avO b w.1 w.2.1), (b 1, arI E 12 w.2.2.1), (b 2, arI E 12 w.2.2.2.1), (b 3, arI E 12 w.2.2.2.2.1), (b 4, arI E 96 w.2.2.2.2.2)]) 1 rfl cpy_all rfl ?_
  refine G.aload_n hX 1 rfl dX0_become_31 ?_
  refine G.get hX inc_X0_become_0 5 rfl rfl 3 (by decide) (by decide +kernel) rfl dX0_become_32 ?_
  refine G.iconst hX (v := 0) (by decide) dX0_become_35 ?_
  refine G.aload_n hX 0 rfl dX0_become_36 ?_
  refine G.get hX inc_X0_become_0 0 rfl rfl 3 (by decide) (by decide +kernel) rfl dX0_become_37 ?_
  refine G.iconst hX (v := 0) (by decide) dX0_become_40 ?_
  refine G.bipush hX (v := 12) (by decide) dX0_become_41 ?_
  refine G.copyi hX (n := 12) (dp := 0) (sp := 0) (ws' := [(a 0, avO a w.1 w.2.1), (a 1, arI E 12 w.2.2.1), (a 2, arI E 12 (va_cpy w.2.2.2.1 q.2.2.2.1 0 0 12)), (a 3, arI E 12 q.2.2.2.2.1), (a 4, arI E 96 q.2.2.2.2.2), (b 0, avO b w.1 w.2.1), (b 1, arI E 12 w.2.2.1), (b 2, arI E 12 w.2.2.2.1), (b 3, arI E 12 w.2.2.2.2.1), (b 4, arI E 96 w.2.2.2.2.2)]) (by decide +kernel) (by decide +kernel) (by decide +kernel) (by decide +kernel) 7 2 rfl rfl (by omega) (by omega) (by omega) (by omega) (by decide) (Nat.le_of_ble_eq_true rfl) rfl rfl dX0_become_43 ?_
  refine G.ext (g := w.2.2.2.1) (ws' := [(a 0, avO a w.1 w.2.1), (a 1, arI E 12 w.2.2.1), (a 2, arI E 12 w.2.2.2.1), (a 3, arI E 12 q.2.2.2.2.1), (a 4, arI E 96 q.2.2.2.2.2), (b 0, avO b w.1 w.2.1), (b 1, arI E 12 w.2.2.1), (b 2, arI E 12 w.2.2.2.1), (b 3, arI E 12 w.2.2.2.2.1), (b 4, arI E 96 w.2.2.2.2.2)]) 2 rfl cpy_all rfl ?_
  refine G.aload_n hX 1 rfl dX0_become_46 ?_
  refine G.get hX inc_X0_become_0 5 rfl rfl 4 (by decide) (by decide +kernel) rfl dX0_become_47 ?_
  refine G.iconst hX (v := 0) (by decide) dX0_become_50 ?_
  refine G.aload_n hX 0 rfl dX0_become_51 ?_
  refine G.get hX inc_X0_become_0 0 rfl rfl 4 (by decide) (by decide +kernel) rfl dX0_become_52 ?_
  refine G.iconst hX (v := 0) (by decide) dX0_become_55 ?_
  refine G.bipush hX (v := 12) (by decide) dX0_become_56 ?_
  refine G.copyi hX (n := 12) (dp := 0) (sp := 0) (ws' := [(a 0, avO a w.1 w.2.1), (a 1, arI E 12 w.2.2.1), (a 2, arI E 12 w.2.2.2.1), (a 3, arI E 12 (va_cpy w.2.2.2.2.1 q.2.2.2.2.1 0 0 12)), (a 4, arI E 96 q.2.2.2.2.2), (b 0, avO b w.1 w.2.1), (b 1, arI E 12 w.2.2.1), (b 2, arI E 12 w.2.2.2.1), (b 3, arI E 12 w.2.2.2.2.1), (b 4, arI E 96 w.2.2.2.2.2)]) (by decide +kernel) (by decide +kernel) (by decide +kernel) (by decide +kernel) 8 3 rfl rfl (by omega) (by omega) (by omega) (by omega) (by decide) (Nat.le_of_ble_eq_true rfl) rfl rfl dX0_become_58 ?_
  refine G.ext (g := w.2.2.2.2.1) (ws' := [(a 0, avO a w.1 w.2.1), (a 1, arI E 12 w.2.2.1), (a 2, arI E 12 w.2.2.2.1), (a 3, arI E 12 w.2.2.2.2.1), (a 4, arI E 96 q.2.2.2.2.2), (b 0, avO b w.1 w.2.1), (b 1, arI E 12 w.2.2.1), (b 2, arI E 12 w.2.2.2.1), (b 3, arI E 12 w.2.2.2.2.1), (b 4, arI E 96 w.2.2.2.2.2)]) 3 rfl cpy_all rfl ?_
  refine G.aload_n hX 1 rfl dX0_become_61 ?_
  refine G.get hX inc_X0_become_0 5 rfl rfl 5 (by decide) (by decide +kernel) rfl dX0_become_62 ?_
  refine G.iconst hX (v := 0) (by decide) dX0_become_65 ?_
  refine G.aload_n hX 0 rfl dX0_become_66 ?_
  refine G.get hX inc_X0_become_0 0 rfl rfl 5 (by decide) (by decide +kernel) rfl dX0_become_67 ?_
  refine G.iconst hX (v := 0) (by decide) dX0_become_70 ?_
  refine G.bipush hX (v := 96) (by decide) dX0_become_71 ?_
  refine G.copyi hX (n := 96) (dp := 0) (sp := 0) (ws' := [(a 0, avO a w.1 w.2.1), (a 1, arI E 12 w.2.2.1), (a 2, arI E 12 w.2.2.2.1), (a 3, arI E 12 w.2.2.2.2.1), (a 4, arI E 96 (va_cpy w.2.2.2.2.2 q.2.2.2.2.2 0 0 96)), (b 0, avO b w.1 w.2.1), (b 1, arI E 12 w.2.2.1), (b 2, arI E 12 w.2.2.2.1), (b 3, arI E 12 w.2.2.2.2.1), (b 4, arI E 96 w.2.2.2.2.2)]) (by decide +kernel) (by decide +kernel) (by decide +kernel) (by decide +kernel) 9 4 rfl rfl (by omega) (by omega) (by omega) (by omega) (by decide) (Nat.le_of_ble_eq_true rfl) rfl rfl dX0_become_73 ?_
  refine G.ext (g := w.2.2.2.2.2) (ws' := [(a 0, avO a w.1 w.2.1), (a 1, arI E 12 w.2.2.1), (a 2, arI E 12 w.2.2.2.1), (a 3, arI E 12 w.2.2.2.2.1), (a 4, arI E 96 w.2.2.2.2.2), (b 0, avO b w.1 w.2.1), (b 1, arI E 12 w.2.2.1), (b 2, arI E 12 w.2.2.2.1), (b 3, arI E 12 w.2.2.2.2.1), (b 4, arI E 96 w.2.2.2.2.2)]) 4 rfl cpy_all rfl ?_
  exact G.vret hX hQ dX0_become_76 (by rfl)
abbrev rmX0_setAnew : Room := { frames := 0, cells := 0, slots := 0, locals := 0 }
theorem cp_X0_setAnew : CP yX0_setAnew RX0 wsX0_setAnew 4 3 rmX0_setAnew := ⟨⟨_, _, _, rfl⟩, rfl, rfl, by decide +kernel⟩
theorem inc_X0_setAnew_0 : ∀ w ∈ u_ws RX0 TX0 6, w ∈ wsX0_setAnew := by decide +kernel
set_option maxHeartbeats 4000000 in
set_option maxRecDepth 100000 in
theorem c_X0_setAnew (l : Launch) (E : EV) (q : AV) (t : Nat) (k : Int32) (ag : Int32) (a : Nat → Nat) (h1 : t < 12) : CV l yX0_setAnew wsX0_setAnew rmX0_setAnew E [.ref (a 0), .int (nI t), .int k, .int ag] [(a 0, avO a q.1 q.2.1), (a 1, arI E 12 q.2.2.1), (a 2, arI E 12 q.2.2.2.1), (a 3, arI E 12 q.2.2.2.2.1), (a 4, arI E 96 q.2.2.2.2.2)] [(a 0, avO a ((av_anew q t k ag).1) ((av_anew q t k ag).2.1)), (a 1, arI E 12 ((av_anew q t k ag).2.2.1)), (a 2, arI E 12 ((av_anew q t k ag).2.2.2.1)), (a 3, arI E 12 ((av_anew q t k ag).2.2.2.2.1)), (a 4, arI E 96 ((av_anew q t k ag).2.2.2.2.2))] := by
  refine CV.of (own := RX0) (cc := cX0_setAnew) (nL := 4) (rt := none) (by decide) rfl rfl (Nat.le_of_ble_eq_true rfl) (fun X hX hQ => ?_)
  show G E X 4 0 [(0, .ref (a 0)), (1, .int (nI t)), (2, .int k), (3, .int ag)] [] [(a 0, avO a q.1 q.2.1), (a 1, arI E 12 q.2.2.1), (a 2, arI E 12 q.2.2.2.1), (a 3, arI E 12 q.2.2.2.2.1), (a 4, arI E 96 q.2.2.2.2.2)]
  refine G.aload_n hX 0 rfl dX0_setAnew_0 ?_
  refine G.get hX inc_X0_setAnew_0 0 rfl rfl 2 (by decide) (by decide +kernel) rfl dX0_setAnew_1 ?_
  refine G.iload_n hX 1 rfl dX0_setAnew_4 ?_
  refine G.iload_n hX 2 rfl dX0_setAnew_5 ?_
  refine G.iast hX (j := t) (ws' := [(a 0, avO a q.1 q.2.1), (a 1, arI E 12 (upd q.2.2.1 t k)), (a 2, arI E 12 q.2.2.2.1), (a 3, arI E 12 q.2.2.2.2.1), (a 4, arI E 96 q.2.2.2.2.2)]) 1 rfl (by omega) (by omega) rfl rfl dX0_setAnew_6 ?_
  refine G.aload_n hX 0 rfl dX0_setAnew_7 ?_
  refine G.get hX inc_X0_setAnew_0 0 rfl rfl 3 (by decide) (by decide +kernel) rfl dX0_setAnew_8 ?_
  refine G.iload_n hX 1 rfl dX0_setAnew_11 ?_
  refine G.iload_n hX 3 rfl dX0_setAnew_12 ?_
  refine G.iast hX (j := t) (ws' := [(a 0, avO a q.1 q.2.1), (a 1, arI E 12 (upd q.2.2.1 t k)), (a 2, arI E 12 (upd q.2.2.2.1 t ag)), (a 3, arI E 12 q.2.2.2.2.1), (a 4, arI E 96 q.2.2.2.2.2)]) 2 rfl (by omega) (by omega) rfl rfl dX0_setAnew_13 ?_
  refine G.aload_n hX 0 rfl dX0_setAnew_14 ?_
  refine G.get hX inc_X0_setAnew_0 0 rfl rfl 4 (by decide) (by decide +kernel) rfl dX0_setAnew_15 ?_
  refine G.iload_n hX 1 rfl dX0_setAnew_18 ?_
  refine G.iconst hX (v := 0) (by decide) dX0_setAnew_19 ?_
  refine G.iast hX (j := t) (ws' := [(a 0, avO a q.1 q.2.1), (a 1, arI E 12 (upd q.2.2.1 t k)), (a 2, arI E 12 (upd q.2.2.2.1 t ag)), (a 3, arI E 12 (upd q.2.2.2.2.1 t 0)), (a 4, arI E 96 q.2.2.2.2.2)]) 3 rfl (by omega) (by omega) rfl rfl dX0_setAnew_20 ?_
  exact G.vret hX hQ dX0_setAnew_21 (by rfl)
abbrev rmX0_learntWhen : Room := { frames := 0, cells := 0, slots := 0, locals := 0 }
theorem cp_X0_learntWhen : CP yX0_learntWhen RX0 wsX0_learntWhen 3 2 rmX0_learntWhen := ⟨⟨_, _, _, rfl⟩, rfl, rfl, by decide +kernel⟩
theorem inc_X0_learntWhen_0 : ∀ w ∈ u_ws RX0 TX0 6, w ∈ wsX0_learntWhen := by decide +kernel
set_option maxHeartbeats 4000000 in
set_option maxRecDepth 100000 in
theorem c_X0_learntWhen (l : Launch) (E : EV) (q : AV) (t : Nat) (m : Nat) (a : Nat → Nat) (h1 : t < 12) (h2 : m < 8) : CI l yX0_learntWhen wsX0_learntWhen rmX0_learntWhen E [.ref (a 0), .int (nI t), .int (nI m)] [(a 0, avO a q.1 q.2.1), (a 1, arI E 12 q.2.2.1), (a 2, arI E 12 q.2.2.2.1), (a 3, arI E 12 q.2.2.2.2.1), (a 4, arI E 96 q.2.2.2.2.2)] [(a 0, avO a q.1 q.2.1), (a 1, arI E 12 q.2.2.1), (a 2, arI E 12 q.2.2.2.1), (a 3, arI E 12 q.2.2.2.2.1), (a 4, arI E 96 q.2.2.2.2.2)] (q.2.2.2.2.2 (t * 8 + m)) := by
  refine CI.of (own := RX0) (cc := cX0_learntWhen) (nL := 3) (rt := (some .int)) (by decide) rfl rfl (Nat.le_of_ble_eq_true rfl) (fun X hX hQ => ?_)
  show G E X 3 0 [(0, .ref (a 0)), (1, .int (nI t)), (2, .int (nI m))] [] [(a 0, avO a q.1 q.2.1), (a 1, arI E 12 q.2.2.1), (a 2, arI E 12 q.2.2.2.1), (a 3, arI E 12 q.2.2.2.2.1), (a 4, arI E 96 q.2.2.2.2.2)]
  refine G.aload_n hX 0 rfl dX0_learntWhen_0 ?_
  refine G.get hX inc_X0_learntWhen_0 0 rfl rfl 5 (by decide) (by decide +kernel) rfl dX0_learntWhen_1 ?_
  refine G.iload_n hX 1 rfl dX0_learntWhen_4 ?_
  refine G.bipush hX (v := 8) (by decide) dX0_learntWhen_5 ?_
  refine G.imul hX dX0_learntWhen_7 ?_
  refine G.ie (pk_mul t 8) ?_
  refine G.iload_n hX 2 rfl dX0_learntWhen_8 ?_
  refine G.iadd hX dX0_learntWhen_9 ?_
  refine G.ie (nI_add (t * 8) m) ?_
  refine G.iald hX (j := (t * 8) + m) 4 rfl (by omega) (by omega) dX0_learntWhen_10 ?_
  exact G.iret hX hQ dX0_learntWhen_11 (by first | rfl | (simp only [↓reduceIte, Bool.not_true, Bool.not_false, Bool.and_true, Bool.true_and, Bool.and_false, Bool.false_and, Bool.or_true, Bool.true_or, Bool.or_false, Bool.false_or, decide_true, decide_false, not_true_eq_false, not_false_eq_true, Bool.false_eq_true, Bool.true_eq_false]; done) | (simp only [↓reduceIte, Bool.not_true, Bool.not_false, Bool.and_true, Bool.true_and, Bool.and_false, Bool.false_and, Bool.or_true, Bool.true_or, Bool.or_false, Bool.false_or, decide_true, decide_false, not_true_eq_false, not_false_eq_true, Bool.false_eq_true, Bool.true_eq_false]; rfl) | (simp []; done)) (by rfl)
abbrev rmX0_knows : Room := { frames := 0, cells := 0, slots := 0, locals := 0 }
theorem cp_X0_knows : CP yX0_knows RX0 wsX0_knows 3 2 rmX0_knows := ⟨⟨_, _, _, rfl⟩, rfl, rfl, by decide +kernel⟩
theorem inc_X0_knows_0 : ∀ w ∈ u_ws RX0 TX0 6, w ∈ wsX0_knows := by decide +kernel
set_option maxHeartbeats 4000000 in
set_option maxRecDepth 100000 in
theorem c_X0_knows (l : Launch) (E : EV) (q : AV) (t : Nat) (m : Nat) (a : Nat → Nat) (h1 : t < 12) (h2 : m < 8) : CI l yX0_knows wsX0_knows rmX0_knows E [.ref (a 0), .int (nI t), .int (nI m)] [(a 0, avO a q.1 q.2.1), (a 1, arI E 12 q.2.2.1), (a 2, arI E 12 q.2.2.2.1), (a 3, arI E 12 q.2.2.2.2.1), (a 4, arI E 96 q.2.2.2.2.2)] [(a 0, avO a q.1 q.2.1), (a 1, arI E 12 q.2.2.1), (a 2, arI E 12 q.2.2.2.1), (a 3, arI E 12 q.2.2.2.2.1), (a 4, arI E 96 q.2.2.2.2.2)] (bI (av_k q t m)) := by
  refine CI.of (own := RX0) (cc := cX0_knows) (nL := 3) (rt := (some .boolean)) (by decide) rfl rfl (Nat.le_of_ble_eq_true rfl) (fun X hX hQ => ?_)
  show G E X 3 0 [(0, .ref (a 0)), (1, .int (nI t)), (2, .int (nI m))] [] [(a 0, avO a q.1 q.2.1), (a 1, arI E 12 q.2.2.1), (a 2, arI E 12 q.2.2.2.1), (a 3, arI E 12 q.2.2.2.2.1), (a 4, arI E 96 q.2.2.2.2.2)]
  refine G.aload_n hX 0 rfl dX0_knows_0 ?_
  refine G.get hX inc_X0_knows_0 0 rfl rfl 4 (by decide) (by decide +kernel) rfl dX0_knows_1 ?_
  refine G.iload_n hX 1 rfl dX0_knows_4 ?_
  refine G.iald hX (j := t) 3 rfl (by omega) (by omega) dX0_knows_5 ?_
  refine G.iload_n hX 2 rfl dX0_knows_6 ?_
  refine G.ishr hX dX0_knows_7 ?_
  refine G.iconst hX (v := 1) (by decide) dX0_knows_8 ?_
  refine G.iand hX dX0_knows_9 ?_
  refine G.iconst hX (v := 1) (by decide) dX0_knows_10 ?_
  refine G.icmp_ne hX (tgt := 18) (by decide) dX0_knows_11 (fun c11 => ?_) (fun c11 => ?_)
  · refine G.iconst hX (v := 0) (by decide) dX0_knows_18 ?_
    exact G.zret hX hQ rfl dX0_knows_19 (bI_0.mpr (by first | rfl | (simp only [av_k, c11, ↓reduceIte, Bool.not_true, Bool.not_false, Bool.and_true, Bool.true_and, Bool.and_false, Bool.false_and, Bool.or_true, Bool.true_or, Bool.or_false, Bool.false_or, decide_true, decide_false, not_true_eq_false, not_false_eq_true, Bool.false_eq_true, Bool.true_eq_false]; done) | (simp only [av_k, c11, ↓reduceIte, Bool.not_true, Bool.not_false, Bool.and_true, Bool.true_and, Bool.and_false, Bool.false_and, Bool.or_true, Bool.true_or, Bool.or_false, Bool.false_or, decide_true, decide_false, not_true_eq_false, not_false_eq_true, Bool.false_eq_true, Bool.true_eq_false]; rfl) | (simp [av_k, c11]; done))).symm (by rfl)
  · refine G.iconst hX (v := 1) (by decide) dX0_knows_14 ?_
    refine G.goto hX (tgt := 19) (by decide) dX0_knows_15 ?_
    exact G.zret hX hQ rfl dX0_knows_19 (bI_1.mpr (by first | rfl | (simp only [av_k, c11, ↓reduceIte, Bool.not_true, Bool.not_false, Bool.and_true, Bool.true_and, Bool.and_false, Bool.false_and, Bool.or_true, Bool.true_or, Bool.or_false, Bool.false_or, decide_true, decide_false, not_true_eq_false, not_false_eq_true, Bool.false_eq_true, Bool.true_eq_false]; done) | (simp only [av_k, c11, ↓reduceIte, Bool.not_true, Bool.not_false, Bool.and_true, Bool.true_and, Bool.and_false, Bool.false_and, Bool.or_true, Bool.true_or, Bool.or_false, Bool.false_or, decide_true, decide_false, not_true_eq_false, not_false_eq_true, Bool.false_eq_true, Bool.true_eq_false]; rfl) | (simp [av_k, c11]; done))).symm (by rfl)
abbrev rmX0_learn : Room := { frames := 0, cells := 0, slots := 0, locals := 0 }
theorem cp_X0_learn : CP yX0_learn RX0 wsX0_learn 3 2 rmX0_learn := ⟨⟨_, _, _, rfl⟩, rfl, rfl, by decide +kernel⟩
theorem inc_X0_learn_0 : ∀ w ∈ u_ws RX0 TX0 6, w ∈ wsX0_learn := by decide +kernel
set_option maxHeartbeats 4000000 in
set_option maxRecDepth 100000 in
theorem c_X0_learn (l : Launch) (E : EV) (q : AV) (t : Nat) (m : Nat) (a : Nat → Nat) (h1 : t < 12) (h2 : m < 8) : CV l yX0_learn wsX0_learn rmX0_learn E [.ref (a 0), .int (nI t), .int (nI m)] [(a 0, avO a q.1 q.2.1), (a 1, arI E 12 q.2.2.1), (a 2, arI E 12 q.2.2.2.1), (a 3, arI E 12 q.2.2.2.2.1), (a 4, arI E 96 q.2.2.2.2.2)] [(a 0, avO a ((av_learn q t m).1) ((av_learn q t m).2.1)), (a 1, arI E 12 ((av_learn q t m).2.2.1)), (a 2, arI E 12 ((av_learn q t m).2.2.2.1)), (a 3, arI E 12 ((av_learn q t m).2.2.2.2.1)), (a 4, arI E 96 ((av_learn q t m).2.2.2.2.2))] := by
  refine CV.of (own := RX0) (cc := cX0_learn) (nL := 3) (rt := none) (by decide) rfl rfl (Nat.le_of_ble_eq_true rfl) (fun X hX hQ => ?_)
  show G E X 3 0 [(0, .ref (a 0)), (1, .int (nI t)), (2, .int (nI m))] [] [(a 0, avO a q.1 q.2.1), (a 1, arI E 12 q.2.2.1), (a 2, arI E 12 q.2.2.2.1), (a 3, arI E 12 q.2.2.2.2.1), (a 4, arI E 96 q.2.2.2.2.2)]
  refine G.aload_n hX 0 rfl dX0_learn_0 ?_
  refine G.get hX inc_X0_learn_0 0 rfl rfl 4 (by decide) (by decide +kernel) rfl dX0_learn_1 ?_
  refine G.iload_n hX 1 rfl dX0_learn_4 ?_
  refine G.dup2 hX rfl rfl dX0_learn_5 ?_
  refine G.iald hX (j := t) 3 rfl (by omega) (by omega) dX0_learn_6 ?_
  refine G.iconst hX (v := 1) (by decide) dX0_learn_7 ?_
  refine G.iload_n hX 2 rfl dX0_learn_8 ?_
  refine G.ishl hX dX0_learn_9 ?_
  refine G.ior hX dX0_learn_10 ?_
  refine G.iast hX (j := t) (ws' := [(a 0, avO a q.1 q.2.1), (a 1, arI E 12 q.2.2.1), (a 2, arI E 12 q.2.2.2.1), (a 3, arI E 12 (upd q.2.2.2.2.1 t ((q.2.2.2.2.1 t) ||| (1 <<< ((nI m) &&& 31))))), (a 4, arI E 96 q.2.2.2.2.2)]) 3 rfl (by omega) (by omega) rfl rfl dX0_learn_11 ?_
  refine G.aload_n hX 0 rfl dX0_learn_12 ?_
  refine G.get hX inc_X0_learn_0 0 rfl rfl 5 (by decide) (by decide +kernel) rfl dX0_learn_13 ?_
  refine G.iload_n hX 1 rfl dX0_learn_16 ?_
  refine G.bipush hX (v := 8) (by decide) dX0_learn_17 ?_
  refine G.imul hX dX0_learn_19 ?_
  refine G.ie (pk_mul t 8) ?_
  refine G.iload_n hX 2 rfl dX0_learn_20 ?_
  refine G.iadd hX dX0_learn_21 ?_
  refine G.ie (nI_add (t * 8) m) ?_
  refine G.aload_n hX 0 rfl dX0_learn_22 ?_
  refine G.get hX inc_X0_learn_0 0 rfl rfl 0 (by decide) (by decide +kernel) rfl dX0_learn_23 ?_
  refine G.iast hX (j := (t * 8) + m) (ws' := [(a 0, avO a q.1 q.2.1), (a 1, arI E 12 q.2.2.1), (a 2, arI E 12 q.2.2.2.1), (a 3, arI E 12 (upd q.2.2.2.2.1 t ((q.2.2.2.2.1 t) ||| (1 <<< ((nI m) &&& 31))))), (a 4, arI E 96 (upd q.2.2.2.2.2 ((t * 8) + m) q.1))]) 4 rfl (by omega) (by omega) rfl rfl dX0_learn_26 ?_
  exact G.vret hX hQ dX0_learn_27 (by rfl)
abbrev rmX0_lose : Room := { frames := 0, cells := 0, slots := 0, locals := 0 }
theorem cp_X0_lose : CP yX0_lose RX0 wsX0_lose 3 2 rmX0_lose := ⟨⟨_, _, _, rfl⟩, rfl, rfl, by decide +kernel⟩
theorem inc_X0_lose_0 : ∀ w ∈ u_ws RX0 TX0 6, w ∈ wsX0_lose := by decide +kernel
set_option maxHeartbeats 4000000 in
set_option maxRecDepth 100000 in
theorem c_X0_lose (l : Launch) (E : EV) (q : AV) (t : Nat) (m : Nat) (a : Nat → Nat) (h1 : t < 12) (h2 : m < 8) : CV l yX0_lose wsX0_lose rmX0_lose E [.ref (a 0), .int (nI t), .int (nI m)] [(a 0, avO a q.1 q.2.1), (a 1, arI E 12 q.2.2.1), (a 2, arI E 12 q.2.2.2.1), (a 3, arI E 12 q.2.2.2.2.1), (a 4, arI E 96 q.2.2.2.2.2)] [(a 0, avO a ((av_lose q t m).1) ((av_lose q t m).2.1)), (a 1, arI E 12 ((av_lose q t m).2.2.1)), (a 2, arI E 12 ((av_lose q t m).2.2.2.1)), (a 3, arI E 12 ((av_lose q t m).2.2.2.2.1)), (a 4, arI E 96 ((av_lose q t m).2.2.2.2.2))] := by
  refine CV.of (own := RX0) (cc := cX0_lose) (nL := 3) (rt := none) (by decide) rfl rfl (Nat.le_of_ble_eq_true rfl) (fun X hX hQ => ?_)
  show G E X 3 0 [(0, .ref (a 0)), (1, .int (nI t)), (2, .int (nI m))] [] [(a 0, avO a q.1 q.2.1), (a 1, arI E 12 q.2.2.1), (a 2, arI E 12 q.2.2.2.1), (a 3, arI E 12 q.2.2.2.2.1), (a 4, arI E 96 q.2.2.2.2.2)]
  refine G.aload_n hX 0 rfl dX0_lose_0 ?_
  refine G.get hX inc_X0_lose_0 0 rfl rfl 4 (by decide) (by decide +kernel) rfl dX0_lose_1 ?_
  refine G.iload_n hX 1 rfl dX0_lose_4 ?_
  refine G.dup2 hX rfl rfl dX0_lose_5 ?_
  refine G.iald hX (j := t) 3 rfl (by omega) (by omega) dX0_lose_6 ?_
  refine G.iconst hX (v := 1) (by decide) dX0_lose_7 ?_
  refine G.iload_n hX 2 rfl dX0_lose_8 ?_
  refine G.ishl hX dX0_lose_9 ?_
  refine G.iconst hX (v := -1) (by decide) dX0_lose_10 ?_
  refine G.ixor hX dX0_lose_11 ?_
  refine G.iand hX dX0_lose_12 ?_
  refine G.iast hX (j := t) (ws' := [(a 0, avO a q.1 q.2.1), (a 1, arI E 12 q.2.2.1), (a 2, arI E 12 q.2.2.2.1), (a 3, arI E 12 (upd q.2.2.2.2.1 t ((q.2.2.2.2.1 t) &&& ((1 <<< ((nI m) &&& 31)) ^^^ ((-1)))))), (a 4, arI E 96 q.2.2.2.2.2)]) 3 rfl (by omega) (by omega) rfl rfl dX0_lose_13 ?_
  exact G.vret hX hQ dX0_lose_14 (by rfl)
abbrev rmX0_knownAtTerrace : Room := { frames := 1, cells := 0, slots := 0, locals := 21 }
theorem cp_X0_knownAtTerrace : CP yX0_knownAtTerrace RX0 wsX0_knownAtTerrace 1 0 rmX0_knownAtTerrace := ⟨⟨_, _, _, rfl⟩, rfl, rfl, by decide +kernel⟩
theorem inc_X0_knownAtTerrace_0 : ∀ w ∈ u_ws RX0 TX0 6, w ∈ wsX0_knownAtTerrace := by decide +kernel
set_option maxHeartbeats 4000000 in
set_option maxRecDepth 100000 in
theorem c_X0_knownAtTerrace (l : Launch) (E : EV) (q : AV) (a : Nat → Nat)  : CI l yX0_knownAtTerrace wsX0_knownAtTerrace rmX0_knownAtTerrace E [.ref (a 0)] [(a 0, avO a q.1 q.2.1), (a 1, arI E 12 q.2.2.1), (a 2, arI E 12 q.2.2.2.1), (a 3, arI E 12 q.2.2.2.2.1), (a 4, arI E 96 q.2.2.2.2.2)] [(a 0, avO a q.1 q.2.1), (a 1, arI E 12 q.2.2.1), (a 2, arI E 12 q.2.2.2.1), (a 3, arI E 12 q.2.2.2.2.1), (a 4, arI E 96 q.2.2.2.2.2)] (av_home q) := by
  refine CI.of (own := RX0) (cc := cX0_knownAtTerrace) (nL := 1) (rt := (some .int)) (by decide) rfl rfl (Nat.le_of_ble_eq_true rfl) (fun X hX hQ => ?_)
  show G E X 1 0 [(0, .ref (a 0))] [] [(a 0, avO a q.1 q.2.1), (a 1, arI E 12 q.2.2.1), (a 2, arI E 12 q.2.2.2.1), (a 3, arI E 12 q.2.2.2.2.1), (a 4, arI E 96 q.2.2.2.2.2)]
  refine G.aload_n hX 0 rfl dX0_knownAtTerrace_0 ?_
  refine G.get hX inc_X0_knownAtTerrace_0 0 rfl rfl 4 (by decide) (by decide +kernel) rfl dX0_knownAtTerrace_1 ?_
  refine G.iconst hX (v := 5) (by decide) dX0_knownAtTerrace_4 ?_
  refine G.iconst hX (v := 0) (by decide) dX0_knownAtTerrace_5 ?_
  refine G.sni hX (As := [.int 5, .int 0]) (st := [.ref (a 3)]) (wr := [(a 0, avO a q.1 q.2.1), (a 1, arI E 12 q.2.2.1), (a 2, arI E 12 q.2.2.2.1), (a 3, arI E 12 q.2.2.2.2.1), (a 4, arI E 96 q.2.2.2.2.2)]) (wf := [(a 0, avO a q.1 q.2.1), (a 1, arI E 12 q.2.2.1), (a 2, arI E 12 q.2.2.2.1), (a 3, arI E 12 q.2.2.2.2.1), (a 4, arI E 96 q.2.2.2.2.2)]) (c_X3_treeAt _ E (u := 5) (v := 0) ) gX0_knownAtTerrace_X3_treeAt_n43 (by decide +kernel) (by decide +kernel) (hX.2.2.2.2.2.1.2.1) cp_X3_treeAt (by decide) [] [0, 1, 2, 3, 4] [0, 1, 2, 3, 4] ⟨rfl, rfl, by decide, rfl⟩ rfl rfl (Nat.le_of_ble_eq_true rfl) dX0_knownAtTerrace_6 ?_
  refine G.ie (y := nI (2 * 5)) rfl ?_
  refine G.iald hX (j := 2 * 5) 3 rfl (by omega) (by omega) dX0_knownAtTerrace_9 ?_
  refine G.aload_n hX 0 rfl dX0_knownAtTerrace_10 ?_
  refine G.get hX inc_X0_knownAtTerrace_0 0 rfl rfl 4 (by decide) (by decide +kernel) rfl dX0_knownAtTerrace_11 ?_
  refine G.iconst hX (v := 5) (by decide) dX0_knownAtTerrace_14 ?_
  refine G.iconst hX (v := 1) (by decide) dX0_knownAtTerrace_15 ?_
  refine G.sni hX (As := [.int 5, .int 1]) (st := [.ref (a 3), .int (q.2.2.2.2.1 (2 * 5))]) (wr := [(a 0, avO a q.1 q.2.1), (a 1, arI E 12 q.2.2.1), (a 2, arI E 12 q.2.2.2.1), (a 3, arI E 12 q.2.2.2.2.1), (a 4, arI E 96 q.2.2.2.2.2)]) (wf := [(a 0, avO a q.1 q.2.1), (a 1, arI E 12 q.2.2.1), (a 2, arI E 12 q.2.2.2.1), (a 3, arI E 12 q.2.2.2.2.1), (a 4, arI E 96 q.2.2.2.2.2)]) (c_X3_treeAt _ E (u := 5) (v := 1) ) gX0_knownAtTerrace_X3_treeAt_n43 (by decide +kernel) (by decide +kernel) (hX.2.2.2.2.2.1.2.1) cp_X3_treeAt (by decide) [] [0, 1, 2, 3, 4] [0, 1, 2, 3, 4] ⟨rfl, rfl, by decide, rfl⟩ rfl rfl (Nat.le_of_ble_eq_true rfl) dX0_knownAtTerrace_16 ?_
  refine G.iald hX (j := 2 * 5 + 1) 3 rfl (by omega) (by omega) dX0_knownAtTerrace_19 ?_
  refine G.ior hX dX0_knownAtTerrace_20 ?_
  exact G.iret hX hQ dX0_knownAtTerrace_21 (by rfl) (by rfl)
abbrev rmX0_knownByAny : Room := { frames := 0, cells := 0, slots := 0, locals := 0 }
theorem cp_X0_knownByAny : CP yX0_knownByAny RX0 wsX0_knownByAny 3 0 rmX0_knownByAny := ⟨⟨_, _, _, rfl⟩, rfl, rfl, by decide +kernel⟩
theorem inc_X0_knownByAny_0 : ∀ w ∈ u_ws RX0 TX0 6, w ∈ wsX0_knownByAny := by decide +kernel
set_option maxHeartbeats 4000000 in
set_option maxRecDepth 100000 in
theorem c_X0_knownByAny (l : Launch) (E : EV) (q : AV) (a : Nat → Nat)  : CI l yX0_knownByAny wsX0_knownByAny rmX0_knownByAny E [.ref (a 0)] [(a 0, avO a q.1 q.2.1), (a 1, arI E 12 q.2.2.1), (a 2, arI E 12 q.2.2.2.1), (a 3, arI E 12 q.2.2.2.2.1), (a 4, arI E 96 q.2.2.2.2.2)] [(a 0, avO a q.1 q.2.1), (a 1, arI E 12 q.2.2.1), (a 2, arI E 12 q.2.2.2.1), (a 3, arI E 12 q.2.2.2.2.1), (a 4, arI E 96 q.2.2.2.2.2)] (av_any q) := by
  refine CI.of (own := RX0) (cc := cX0_knownByAny) (nL := 3) (rt := (some .int)) (by decide) rfl rfl (Nat.le_of_ble_eq_true rfl) (fun X hX hQ => ?_)
  show G E X 3 0 [(0, .ref (a 0))] [] [(a 0, avO a q.1 q.2.1), (a 1, arI E 12 q.2.2.1), (a 2, arI E 12 q.2.2.2.1), (a 3, arI E 12 q.2.2.2.2.1), (a 4, arI E 96 q.2.2.2.2.2)]
  refine G.iconst hX (v := 0) (by decide) dX0_knownByAny_0 ?_
  refine G.istore_n hX (lv' := [(1, .int 0), (0, .ref (a 0))]) rfl (by decide) rfl dX0_knownByAny_1 ?_
  refine G.iconst hX (v := 0) (by decide) dX0_knownByAny_2 ?_
  refine G.istore_n hX (lv' := [(2, .int 0), (1, .int 0), (0, .ref (a 0))]) rfl (by decide) rfl dX0_knownByAny_3 ?_
  have L4 : ∀ (n : Nat) (t : Nat), t ≤ 12 → 13 ≤ t + n → G E X 3 4 [(0, .ref (a 0)), (1, .int (it (av_anyS q) t 0)), (2, .int (nI t))] [] [(a 0, avO a q.1 q.2.1), (a 1, arI E 12 q.2.2.1), (a 2, arI E 12 q.2.2.2.1), (a 3, arI E 12 q.2.2.2.2.1), (a 4, arI E 96 q.2.2.2.2.2)] := by
    intro n
    induction n with
    | zero => intro t hl4_0 hl4_1; exact absurd hl4_1 (by omega)
    | succ n ih4 =>
      intro t hl4_0 hl4_1
      refine G.iload_n hX 2 rfl dX0_knownByAny_4 ?_
      refine G.bipush hX (v := 12) (by decide) dX0_knownByAny_5 ?_
      refine G.n_ge hX (a := t) (b := 12) (tgt := 25) (by omega) (by omega) (by decide) dX0_knownByAny_7 (fun c7 => ?_) (fun c7 => ?_)
      · refine G.iload_n hX 1 rfl dX0_knownByAny_25 ?_
        exact G.iret hX hQ dX0_knownByAny_26 (by obtain rfl : t = 12 := (by omega); rfl) (by rfl)
      · refine G.iload_n hX 1 rfl dX0_knownByAny_10 ?_
        refine G.aload_n hX 0 rfl dX0_knownByAny_11 ?_
        refine G.get hX inc_X0_knownByAny_0 0 rfl rfl 4 (by decide) (by decide +kernel) rfl dX0_knownByAny_12 ?_
        refine G.iload_n hX 2 rfl dX0_knownByAny_15 ?_
        refine G.iald hX (j := t) 3 rfl (by omega) (by omega) dX0_knownByAny_16 ?_
        refine G.ior hX dX0_knownByAny_17 ?_
        refine G.istore_n hX (lv' := [(1, .int ((it (av_anyS q) t 0) ||| (q.2.2.2.2.1 t))), (0, .ref (a 0)), (2, .int (nI t))]) rfl (by decide) rfl dX0_knownByAny_18 ?_
        refine G.iinc hX (n := 1) (lv' := [(2, .int (nI (t + 1))), (1, .int ((it (av_anyS q) t 0) ||| (q.2.2.2.2.1 t))), (0, .ref (a 0))]) 2 rfl (inc_nI t 1 rfl) (by decide) rfl dX0_knownByAny_19 ?_
        refine G.goto hX (tgt := 4) (by decide) dX0_knownByAny_22 ?_
        refine G.lvp (lv' := [(0, .ref (a 0)), (1, .int ((it (av_anyS q) t 0) ||| (q.2.2.2.2.1 t))), (2, .int (nI (t + 1)))]) [2, 1, 0] rfl ?_
        refine G.lve (lv' := [(0, .ref (a 0)), (1, .int (it (av_anyS q) (t + 1) 0)), (2, .int (nI ((t + 1))))]) (by rfl) ?_
        exact ih4 (t + 1) (by omega) (by omega)
  refine G.lvp (lv' := [(0, .ref (a 0)), (1, .int 0), (2, .int 0)]) [2, 1, 0] rfl ?_
  refine G.lve (lv' := [(0, .ref (a 0)), (1, .int (it (av_anyS q) 0 0)), (2, .int (nI 0))]) (by rfl) ?_
  exact L4 13 0 (by omega) (by omega)
abbrev rmX0_knownInAll : Room := { frames := 1, cells := 0, slots := 0, locals := 20 }
theorem cp_X0_knownInAll : CP yX0_knownInAll RX0 wsX0_knownInAll 3 0 rmX0_knownInAll := ⟨⟨_, _, _, rfl⟩, rfl, rfl, by decide +kernel⟩
theorem inc_X0_knownInAll_0 : ∀ w ∈ u_ws RX0 TX0 6, w ∈ wsX0_knownInAll := by decide +kernel
set_option maxHeartbeats 4000000 in
set_option maxRecDepth 100000 in
theorem c_X0_knownInAll (l : Launch) (E : EV) (q : AV) (a : Nat → Nat)  : CI l yX0_knownInAll wsX0_knownInAll rmX0_knownInAll E [.ref (a 0)] [(a 0, avO a q.1 q.2.1), (a 1, arI E 12 q.2.2.1), (a 2, arI E 12 q.2.2.2.1), (a 3, arI E 12 q.2.2.2.2.1), (a 4, arI E 96 q.2.2.2.2.2)] [(a 0, avO a q.1 q.2.1), (a 1, arI E 12 q.2.2.1), (a 2, arI E 12 q.2.2.2.1), (a 3, arI E 12 q.2.2.2.2.1), (a 4, arI E 96 q.2.2.2.2.2)] (av_all q) := by
  refine CI.of (own := RX0) (cc := cX0_knownInAll) (nL := 3) (rt := (some .int)) (by decide) rfl rfl (Nat.le_of_ble_eq_true rfl) (fun X hX hQ => ?_)
  show G E X 3 0 [(0, .ref (a 0))] [] [(a 0, avO a q.1 q.2.1), (a 1, arI E 12 q.2.2.1), (a 2, arI E 12 q.2.2.2.1), (a 3, arI E 12 q.2.2.2.2.1), (a 4, arI E 96 q.2.2.2.2.2)]
  refine G.iconst hX (v := 0) (by decide) dX0_knownInAll_0 ?_
  refine G.istore_n hX (lv' := [(1, .int 0), (0, .ref (a 0))]) rfl (by decide) rfl dX0_knownInAll_1 ?_
  refine G.iconst hX (v := 0) (by decide) dX0_knownInAll_2 ?_
  refine G.istore_n hX (lv' := [(2, .int 0), (1, .int 0), (0, .ref (a 0))]) rfl (by decide) rfl dX0_knownInAll_3 ?_
  have L4 : ∀ (n : Nat) (t : Nat), t ≤ 12 → 13 ≤ t + n → G E X 3 4 [(0, .ref (a 0)), (1, .int (it (av_allS q) t 0)), (2, .int (nI t))] [] [(a 0, avO a q.1 q.2.1), (a 1, arI E 12 q.2.2.1), (a 2, arI E 12 q.2.2.2.1), (a 3, arI E 12 q.2.2.2.2.1), (a 4, arI E 96 q.2.2.2.2.2)] := by
    intro n
    induction n with
    | zero => intro t hl4_0 hl4_1; exact absurd hl4_1 (by omega)
    | succ n ih4 =>
      intro t hl4_0 hl4_1
      refine G.iload_n hX 2 rfl dX0_knownInAll_4 ?_
      refine G.bipush hX (v := 12) (by decide) dX0_knownInAll_5 ?_
      refine G.n_ge hX (a := t) (b := 12) (tgt := 28) (by omega) (by omega) (by decide) dX0_knownInAll_7 (fun c7 => ?_) (fun c7 => ?_)
      · refine G.iload_n hX 1 rfl dX0_knownInAll_28 ?_
        exact G.iret hX hQ dX0_knownInAll_29 (by obtain rfl : t = 12 := (by omega); rfl) (by rfl)
      · refine G.iload_n hX 1 rfl dX0_knownInAll_10 ?_
        refine G.aload_n hX 0 rfl dX0_knownInAll_11 ?_
        refine G.get hX inc_X0_knownInAll_0 0 rfl rfl 4 (by decide) (by decide +kernel) rfl dX0_knownInAll_12 ?_
        refine G.iload_n hX 2 rfl dX0_knownInAll_15 ?_
        refine G.iald hX (j := t) 3 rfl (by omega) (by omega) dX0_knownInAll_16 ?_
        refine G.s0i hX (As := [.int (q.2.2.2.2.1 t)]) (st := [.int (it (av_allS q) t 0)]) (c_J6_bitCount_0f7a4 _ E (x := q.2.2.2.2.1 t) ) gX0_knownInAll_J6_bitCount_0f7a4 cp_J6_bitCount_0f7a4 (by decide) rfl rfl (Nat.le_of_ble_eq_true rfl) dX0_knownInAll_17 ?_
        refine G.iadd hX dX0_knownInAll_20 ?_
        refine G.istore_n hX (lv' := [(1, .int ((it (av_allS q) t 0) + (bcI (q.2.2.2.2.1 t)))), (0, .ref (a 0)), (2, .int (nI t))]) rfl (by decide) rfl dX0_knownInAll_21 ?_
        refine G.iinc hX (n := 1) (lv' := [(2, .int (nI (t + 1))), (1, .int ((it (av_allS q) t 0) + (bcI (q.2.2.2.2.1 t)))), (0, .ref (a 0))]) 2 rfl (inc_nI t 1 rfl) (by decide) rfl dX0_knownInAll_22 ?_
        refine G.goto hX (tgt := 4) (by decide) dX0_knownInAll_25 ?_
        refine G.lvp (lv' := [(0, .ref (a 0)), (1, .int ((it (av_allS q) t 0) + (bcI (q.2.2.2.2.1 t)))), (2, .int (nI (t + 1)))]) [2, 1, 0] rfl ?_
        refine G.lve (lv' := [(0, .ref (a 0)), (1, .int (it (av_allS q) (t + 1) 0)), (2, .int (nI ((t + 1))))]) (by rfl) ?_
        exact ih4 (t + 1) (by omega) (by omega)
  refine G.lvp (lv' := [(0, .ref (a 0)), (1, .int 0), (2, .int 0)]) [2, 1, 0] rfl ?_
  refine G.lve (lv' := [(0, .ref (a 0)), (1, .int (it (av_allS q) 0 0)), (2, .int (nI 0))]) (by rfl) ?_
  exact L4 13 0 (by omega) (by omega)
abbrev rmX0_knowers : Room := { frames := 1, cells := 0, slots := 0, locals := 22 }
theorem cp_X0_knowers : CP yX0_knowers RX0 wsX0_knowers 4 1 rmX0_knowers := ⟨⟨_, _, _, rfl⟩, rfl, rfl, by decide +kernel⟩
set_option maxHeartbeats 4000000 in
set_option maxRecDepth 100000 in
theorem c_X0_knowers (l : Launch) (E : EV) (q : AV) (m : Nat) (a : Nat → Nat) (h1 : m < 8) : CI l yX0_knowers wsX0_knowers rmX0_knowers E [.ref (a 0), .int (nI m)] [(a 0, avO a q.1 q.2.1), (a 1, arI E 12 q.2.2.1), (a 2, arI E 12 q.2.2.2.1), (a 3, arI E 12 q.2.2.2.2.1), (a 4, arI E 96 q.2.2.2.2.2)] [(a 0, avO a q.1 q.2.1), (a 1, arI E 12 q.2.2.1), (a 2, arI E 12 q.2.2.2.1), (a 3, arI E 12 q.2.2.2.2.1), (a 4, arI E 96 q.2.2.2.2.2)] (nI (av_kn q m)) := by
  refine CI.of (own := RX0) (cc := cX0_knowers) (nL := 4) (rt := (some .int)) (by decide) rfl rfl (Nat.le_of_ble_eq_true rfl) (fun X hX hQ => ?_)
  show G E X 4 0 [(0, .ref (a 0)), (1, .int (nI m))] [] [(a 0, avO a q.1 q.2.1), (a 1, arI E 12 q.2.2.1), (a 2, arI E 12 q.2.2.2.1), (a 3, arI E 12 q.2.2.2.2.1), (a 4, arI E 96 q.2.2.2.2.2)]
  refine G.iconst hX (v := 0) (by decide) dX0_knowers_0 ?_
  refine G.istore_n hX (lv' := [(2, .int 0), (0, .ref (a 0)), (1, .int (nI m))]) rfl (by decide) rfl dX0_knowers_1 ?_
  refine G.iconst hX (v := 0) (by decide) dX0_knowers_2 ?_
  refine G.istore_n hX (lv' := [(3, .int 0), (2, .int 0), (0, .ref (a 0)), (1, .int (nI m))]) rfl (by decide) rfl dX0_knowers_3 ?_
  have L4 : ∀ (n : Nat) (t : Nat), t ≤ 12 → 13 ≤ t + n → G E X 4 4 [(0, .ref (a 0)), (1, .int (nI m)), (2, .int (nI (it (av_knS q m) t 0))), (3, .int (nI t))] [] [(a 0, avO a q.1 q.2.1), (a 1, arI E 12 q.2.2.1), (a 2, arI E 12 q.2.2.2.1), (a 3, arI E 12 q.2.2.2.2.1), (a 4, arI E 96 q.2.2.2.2.2)] := by
    intro n
    induction n with
    | zero => intro t hl4_0 hl4_1; exact absurd hl4_1 (by omega)
    | succ n ih4 =>
      intro t hl4_0 hl4_1
      refine G.iload_n hX 3 rfl dX0_knowers_4 ?_
      refine G.bipush hX (v := 12) (by decide) dX0_knowers_5 ?_
      refine G.n_ge hX (a := t) (b := 12) (tgt := 28) (by omega) (by omega) (by decide) dX0_knowers_7 (fun c7 => ?_) (fun c7 => ?_)
      · refine G.iload_n hX 2 rfl dX0_knowers_28 ?_
        exact G.iret hX hQ dX0_knowers_29 (by obtain rfl : t = 12 := (by omega); rfl) (by rfl)
      · have J22 : G E X 4 22 [(0, .ref (a 0)), (1, .int (nI m)), (2, .int (nI (it (av_knS q m) (t + 1) 0))), (3, .int (nI t))] [] [(a 0, avO a q.1 q.2.1), (a 1, arI E 12 q.2.2.1), (a 2, arI E 12 q.2.2.2.1), (a 3, arI E 12 q.2.2.2.2.1), (a 4, arI E 96 q.2.2.2.2.2)] := by
          refine G.iinc hX (n := 1) (lv' := [(3, .int (nI (t + 1))), (0, .ref (a 0)), (1, .int (nI m)), (2, .int (nI (it (av_knS q m) (t + 1) 0)))]) 3 rfl (inc_nI t 1 rfl) (by decide) rfl dX0_knowers_22 ?_
          refine G.goto hX (tgt := 4) (by decide) dX0_knowers_25 ?_
          refine G.lvp (lv' := [(0, .ref (a 0)), (1, .int (nI m)), (2, .int (nI (it (av_knS q m) (t + 1) 0))), (3, .int (nI (t + 1)))]) [1, 2, 3, 0] rfl ?_
          refine G.lve (lv' := [(0, .ref (a 0)), (1, .int (nI m)), (2, .int (nI (it (av_knS q m) (t + 1) 0))), (3, .int (nI ((t + 1))))]) (by rfl) ?_
          exact ih4 (t + 1) (by omega) (by omega)
        refine G.aload_n hX 0 rfl dX0_knowers_10 ?_
        refine G.iload_n hX 3 rfl dX0_knowers_11 ?_
        refine G.iload_n hX 1 rfl dX0_knowers_12 ?_
        refine G.vi hX (As := [.int (nI t), .int (nI m)]) (st := []) (wr := []) (wf := [(a 0, avO a q.1 q.2.1), (a 1, arI E 12 q.2.2.1), (a 2, arI E 12 q.2.2.2.1), (a 3, arI E 12 q.2.2.2.2.1), (a 4, arI E 96 q.2.2.2.2.2)]) (q0 := 0) (ci := 0) rfl rfl (c_X0_knows _ E (q := q) (t := t) (m := m) (a := a) (h1 := by omega) (h2 := by omega)) gX0_knowers_X0_knows cp_X0_knows (by decide) [0, 1, 2, 3, 4] [] [0, 1, 2, 3, 4] ⟨rfl, rfl, by decide, rfl⟩ rfl rfl (Nat.le_of_ble_eq_true rfl) dX0_knowers_13 ?_
        refine G.b_eq hX (tgt := 22) (by decide) dX0_knowers_16 (fun c16 => ?_) (fun c16 => ?_)
        · refine G.lve (lv' := [(0, .ref (a 0)), (1, .int (nI m)), (2, .int (nI (it (av_knS q m) (t + 1) 0))), (3, .int (nI t))]) (by first | rfl | (simp only [it_s, av_knS, c7, c16, ↓reduceIte, Bool.not_true, Bool.not_false, Bool.and_true, Bool.true_and, Bool.and_false, Bool.false_and, Bool.or_true, Bool.true_or, Bool.or_false, Bool.false_or, decide_true, decide_false, not_true_eq_false, not_false_eq_true, Bool.false_eq_true, Bool.true_eq_false]; done) | (simp only [it_s, av_knS, c7, c16, ↓reduceIte, Bool.not_true, Bool.not_false, Bool.and_true, Bool.true_and, Bool.and_false, Bool.false_and, Bool.or_true, Bool.true_or, Bool.or_false, Bool.false_or, decide_true, decide_false, not_true_eq_false, not_false_eq_true, Bool.false_eq_true, Bool.true_eq_false]; rfl) | (simp [it_s, av_knS, c7, c16]; done)) ?_
          exact J22
        · refine G.iinc hX (n := 1) (lv' := [(2, .int (nI ((it (av_knS q m) t 0) + 1))), (0, .ref (a 0)), (1, .int (nI m)), (3, .int (nI t))]) 2 rfl (inc_nI (it (av_knS q m) t 0) 1 rfl) (by decide) rfl dX0_knowers_19 ?_
          refine G.lvp (lv' := [(0, .ref (a 0)), (1, .int (nI m)), (2, .int (nI ((it (av_knS q m) t 0) + 1))), (3, .int (nI t))]) [1, 2, 0, 3] rfl ?_
          refine G.lve (lv' := [(0, .ref (a 0)), (1, .int (nI m)), (2, .int (nI (it (av_knS q m) (t + 1) 0))), (3, .int (nI t))]) (by first | rfl | (simp only [it_s, av_knS, c7, c16, ↓reduceIte, Bool.not_true, Bool.not_false, Bool.and_true, Bool.true_and, Bool.and_false, Bool.false_and, Bool.or_true, Bool.true_or, Bool.or_false, Bool.false_or, decide_true, decide_false, not_true_eq_false, not_false_eq_true, Bool.false_eq_true, Bool.true_eq_false]; done) | (simp only [it_s, av_knS, c7, c16, ↓reduceIte, Bool.not_true, Bool.not_false, Bool.and_true, Bool.true_and, Bool.and_false, Bool.false_and, Bool.or_true, Bool.true_or, Bool.or_false, Bool.false_or, decide_true, decide_false, not_true_eq_false, not_false_eq_true, Bool.false_eq_true, Bool.true_eq_false]; rfl) | (simp [it_s, av_knS, c7, c16]; done)) ?_
          exact J22
  refine G.lvp (lv' := [(0, .ref (a 0)), (1, .int (nI m)), (2, .int 0), (3, .int 0)]) [2, 3, 1, 0] rfl ?_
  refine G.lve (lv' := [(0, .ref (a 0)), (1, .int (nI m)), (2, .int (nI (it (av_knS q m) 0 0))), (3, .int (nI 0))]) (by rfl) ?_
  exact L4 13 0 (by omega) (by omega)
abbrev rmX0_treesThatKnow : Room := { frames := 0, cells := 0, slots := 0, locals := 0 }
theorem cp_X0_treesThatKnow : CP yX0_treesThatKnow RX0 wsX0_treesThatKnow 3 0 rmX0_treesThatKnow := ⟨⟨_, _, _, rfl⟩, rfl, rfl, by decide +kernel⟩
theorem inc_X0_treesThatKnow_0 : ∀ w ∈ u_ws RX0 TX0 6, w ∈ wsX0_treesThatKnow := by decide +kernel
set_option maxHeartbeats 4000000 in
set_option maxRecDepth 100000 in
theorem c_X0_treesThatKnow (l : Launch) (E : EV) (q : AV) (a : Nat → Nat)  : CI l yX0_treesThatKnow wsX0_treesThatKnow rmX0_treesThatKnow E [.ref (a 0)] [(a 0, avO a q.1 q.2.1), (a 1, arI E 12 q.2.2.1), (a 2, arI E 12 q.2.2.2.1), (a 3, arI E 12 q.2.2.2.2.1), (a 4, arI E 96 q.2.2.2.2.2)] [(a 0, avO a q.1 q.2.1), (a 1, arI E 12 q.2.2.1), (a 2, arI E 12 q.2.2.2.1), (a 3, arI E 12 q.2.2.2.2.1), (a 4, arI E 96 q.2.2.2.2.2)] (nI (av_tt q)) := by
  refine CI.of (own := RX0) (cc := cX0_treesThatKnow) (nL := 3) (rt := (some .int)) (by decide) rfl rfl (Nat.le_of_ble_eq_true rfl) (fun X hX hQ => ?_)
  show G E X 3 0 [(0, .ref (a 0))] [] [(a 0, avO a q.1 q.2.1), (a 1, arI E 12 q.2.2.1), (a 2, arI E 12 q.2.2.2.1), (a 3, arI E 12 q.2.2.2.2.1), (a 4, arI E 96 q.2.2.2.2.2)]
  refine G.iconst hX (v := 0) (by decide) dX0_treesThatKnow_0 ?_
  refine G.istore_n hX (lv' := [(1, .int 0), (0, .ref (a 0))]) rfl (by decide) rfl dX0_treesThatKnow_1 ?_
  refine G.iconst hX (v := 0) (by decide) dX0_treesThatKnow_2 ?_
  refine G.istore_n hX (lv' := [(2, .int 0), (1, .int 0), (0, .ref (a 0))]) rfl (by decide) rfl dX0_treesThatKnow_3 ?_
  have L4 : ∀ (n : Nat) (t : Nat), t ≤ 12 → 13 ≤ t + n → G E X 3 4 [(0, .ref (a 0)), (1, .int (nI (it (av_ttS q) t 0))), (2, .int (nI t))] [] [(a 0, avO a q.1 q.2.1), (a 1, arI E 12 q.2.2.1), (a 2, arI E 12 q.2.2.2.1), (a 3, arI E 12 q.2.2.2.2.1), (a 4, arI E 96 q.2.2.2.2.2)] := by
    intro n
    induction n with
    | zero => intro t hl4_0 hl4_1; exact absurd hl4_1 (by omega)
    | succ n ih4 =>
      intro t hl4_0 hl4_1
      refine G.iload_n hX 2 rfl dX0_treesThatKnow_4 ?_
      refine G.bipush hX (v := 12) (by decide) dX0_treesThatKnow_5 ?_
      refine G.n_ge hX (a := t) (b := 12) (tgt := 28) (by omega) (by omega) (by decide) dX0_treesThatKnow_7 (fun c7 => ?_) (fun c7 => ?_)
      · refine G.iload_n hX 1 rfl dX0_treesThatKnow_28 ?_
        exact G.iret hX hQ dX0_treesThatKnow_29 (by obtain rfl : t = 12 := (by omega); rfl) (by rfl)
      · have J22 : G E X 3 22 [(0, .ref (a 0)), (1, .int (nI (it (av_ttS q) (t + 1) 0))), (2, .int (nI t))] [] [(a 0, avO a q.1 q.2.1), (a 1, arI E 12 q.2.2.1), (a 2, arI E 12 q.2.2.2.1), (a 3, arI E 12 q.2.2.2.2.1), (a 4, arI E 96 q.2.2.2.2.2)] := by
          refine G.iinc hX (n := 1) (lv' := [(2, .int (nI (t + 1))), (0, .ref (a 0)), (1, .int (nI (it (av_ttS q) (t + 1) 0)))]) 2 rfl (inc_nI t 1 rfl) (by decide) rfl dX0_treesThatKnow_22 ?_
          refine G.goto hX (tgt := 4) (by decide) dX0_treesThatKnow_25 ?_
          refine G.lvp (lv' := [(0, .ref (a 0)), (1, .int (nI (it (av_ttS q) (t + 1) 0))), (2, .int (nI (t + 1)))]) [1, 2, 0] rfl ?_
          refine G.lve (lv' := [(0, .ref (a 0)), (1, .int (nI (it (av_ttS q) (t + 1) 0))), (2, .int (nI ((t + 1))))]) (by rfl) ?_
          exact ih4 (t + 1) (by omega) (by omega)
        refine G.aload_n hX 0 rfl dX0_treesThatKnow_10 ?_
        refine G.get hX inc_X0_treesThatKnow_0 0 rfl rfl 4 (by decide) (by decide +kernel) rfl dX0_treesThatKnow_11 ?_
        refine G.iload_n hX 2 rfl dX0_treesThatKnow_14 ?_
        refine G.iald hX (j := t) 3 rfl (by omega) (by omega) dX0_treesThatKnow_15 ?_
        refine G.if_eq hX (tgt := 22) (by decide) dX0_treesThatKnow_16 (fun c16 => ?_) (fun c16 => ?_)
        · refine G.lve (lv' := [(0, .ref (a 0)), (1, .int (nI (it (av_ttS q) (t + 1) 0))), (2, .int (nI t))]) (by first | rfl | (simp only [it_s, av_ttS, c7, c16, ↓reduceIte, Bool.not_true, Bool.not_false, Bool.and_true, Bool.true_and, Bool.and_false, Bool.false_and, Bool.or_true, Bool.true_or, Bool.or_false, Bool.false_or, decide_true, decide_false, not_true_eq_false, not_false_eq_true, Bool.false_eq_true, Bool.true_eq_false]; done) | (simp only [it_s, av_ttS, c7, c16, ↓reduceIte, Bool.not_true, Bool.not_false, Bool.and_true, Bool.true_and, Bool.and_false, Bool.false_and, Bool.or_true, Bool.true_or, Bool.or_false, Bool.false_or, decide_true, decide_false, not_true_eq_false, not_false_eq_true, Bool.false_eq_true, Bool.true_eq_false]; rfl) | (simp [it_s, av_ttS, c7, c16]; done)) ?_
          exact J22
        · refine G.iinc hX (n := 1) (lv' := [(1, .int (nI ((it (av_ttS q) t 0) + 1))), (0, .ref (a 0)), (2, .int (nI t))]) 1 rfl (inc_nI (it (av_ttS q) t 0) 1 rfl) (by decide) rfl dX0_treesThatKnow_19 ?_
          refine G.lvp (lv' := [(0, .ref (a 0)), (1, .int (nI ((it (av_ttS q) t 0) + 1))), (2, .int (nI t))]) [1, 0, 2] rfl ?_
          refine G.lve (lv' := [(0, .ref (a 0)), (1, .int (nI (it (av_ttS q) (t + 1) 0))), (2, .int (nI t))]) (by first | rfl | (simp only [it_s, av_ttS, c7, c16, ↓reduceIte, Bool.not_true, Bool.not_false, Bool.and_true, Bool.true_and, Bool.and_false, Bool.false_and, Bool.or_true, Bool.true_or, Bool.or_false, Bool.false_or, decide_true, decide_false, not_true_eq_false, not_false_eq_true, Bool.false_eq_true, Bool.true_eq_false]; done) | (simp only [it_s, av_ttS, c7, c16, ↓reduceIte, Bool.not_true, Bool.not_false, Bool.and_true, Bool.true_and, Bool.and_false, Bool.false_and, Bool.or_true, Bool.true_or, Bool.or_false, Bool.false_or, decide_true, decide_false, not_true_eq_false, not_false_eq_true, Bool.false_eq_true, Bool.true_eq_false]; rfl) | (simp [it_s, av_ttS, c7, c16]; done)) ?_
          exact J22
  refine G.lvp (lv' := [(0, .ref (a 0)), (1, .int 0), (2, .int 0)]) [2, 1, 0] rfl ?_
  refine G.lve (lv' := [(0, .ref (a 0)), (1, .int (nI (it (av_ttS q) 0 0))), (2, .int (nI 0))]) (by rfl) ?_
  exact L4 13 0 (by omega) (by omega)
abbrev rmX0_noLimes : Room := { frames := 0, cells := 0, slots := 0, locals := 0 }
theorem cp_X0_noLimes : CP yX0_noLimes RX0 wsX0_noLimes 3 0 rmX0_noLimes := ⟨⟨_, _, _, rfl⟩, rfl, rfl, by decide +kernel⟩
theorem inc_X0_noLimes_0 : ∀ w ∈ u_ws RX0 TX0 6, w ∈ wsX0_noLimes := by decide +kernel
set_option maxHeartbeats 4000000 in
set_option maxRecDepth 100000 in
theorem c_X0_noLimes (l : Launch) (E : EV) (q : AV) (a : Nat → Nat)  : CI l yX0_noLimes wsX0_noLimes rmX0_noLimes E [.ref (a 0)] [(a 0, avO a q.1 q.2.1), (a 1, arI E 12 q.2.2.1), (a 2, arI E 12 q.2.2.2.1), (a 3, arI E 12 q.2.2.2.2.1), (a 4, arI E 96 q.2.2.2.2.2)] [(a 0, avO a q.1 q.2.1), (a 1, arI E 12 q.2.2.1), (a 2, arI E 12 q.2.2.2.1), (a 3, arI E 12 q.2.2.2.2.1), (a 4, arI E 96 q.2.2.2.2.2)] (nI (av_nl q)) := by
  refine CI.of (own := RX0) (cc := cX0_noLimes) (nL := 3) (rt := (some .int)) (by decide) rfl rfl (Nat.le_of_ble_eq_true rfl) (fun X hX hQ => ?_)
  show G E X 3 0 [(0, .ref (a 0))] [] [(a 0, avO a q.1 q.2.1), (a 1, arI E 12 q.2.2.1), (a 2, arI E 12 q.2.2.2.1), (a 3, arI E 12 q.2.2.2.2.1), (a 4, arI E 96 q.2.2.2.2.2)]
  refine G.iconst hX (v := 0) (by decide) dX0_noLimes_0 ?_
  refine G.istore_n hX (lv' := [(1, .int 0), (0, .ref (a 0))]) rfl (by decide) rfl dX0_noLimes_1 ?_
  refine G.iconst hX (v := 0) (by decide) dX0_noLimes_2 ?_
  refine G.istore_n hX (lv' := [(2, .int 0), (1, .int 0), (0, .ref (a 0))]) rfl (by decide) rfl dX0_noLimes_3 ?_
  have L4 : ∀ (n : Nat) (t : Nat), t ≤ 12 → 13 ≤ t + n → G E X 3 4 [(0, .ref (a 0)), (1, .int (nI (it (av_nlS q) t 0))), (2, .int (nI t))] [] [(a 0, avO a q.1 q.2.1), (a 1, arI E 12 q.2.2.1), (a 2, arI E 12 q.2.2.2.1), (a 3, arI E 12 q.2.2.2.2.1), (a 4, arI E 96 q.2.2.2.2.2)] := by
    intro n
    induction n with
    | zero => intro t hl4_0 hl4_1; exact absurd hl4_1 (by omega)
    | succ n ih4 =>
      intro t hl4_0 hl4_1
      refine G.iload_n hX 2 rfl dX0_noLimes_4 ?_
      refine G.bipush hX (v := 12) (by decide) dX0_noLimes_5 ?_
      refine G.n_ge hX (a := t) (b := 12) (tgt := 28) (by omega) (by omega) (by decide) dX0_noLimes_7 (fun c7 => ?_) (fun c7 => ?_)
      · refine G.iload_n hX 1 rfl dX0_noLimes_28 ?_
        exact G.iret hX hQ dX0_noLimes_29 (by obtain rfl : t = 12 := (by omega); rfl) (by rfl)
      · have J22 : G E X 3 22 [(0, .ref (a 0)), (1, .int (nI (it (av_nlS q) (t + 1) 0))), (2, .int (nI t))] [] [(a 0, avO a q.1 q.2.1), (a 1, arI E 12 q.2.2.1), (a 2, arI E 12 q.2.2.2.1), (a 3, arI E 12 q.2.2.2.2.1), (a 4, arI E 96 q.2.2.2.2.2)] := by
          refine G.iinc hX (n := 1) (lv' := [(2, .int (nI (t + 1))), (0, .ref (a 0)), (1, .int (nI (it (av_nlS q) (t + 1) 0)))]) 2 rfl (inc_nI t 1 rfl) (by decide) rfl dX0_noLimes_22 ?_
          refine G.goto hX (tgt := 4) (by decide) dX0_noLimes_25 ?_
          refine G.lvp (lv' := [(0, .ref (a 0)), (1, .int (nI (it (av_nlS q) (t + 1) 0))), (2, .int (nI (t + 1)))]) [1, 2, 0] rfl ?_
          refine G.lve (lv' := [(0, .ref (a 0)), (1, .int (nI (it (av_nlS q) (t + 1) 0))), (2, .int (nI ((t + 1))))]) (by rfl) ?_
          exact ih4 (t + 1) (by omega) (by omega)
        refine G.aload_n hX 0 rfl dX0_noLimes_10 ?_
        refine G.get hX inc_X0_noLimes_0 0 rfl rfl 2 (by decide) (by decide +kernel) rfl dX0_noLimes_11 ?_
        refine G.iload_n hX 2 rfl dX0_noLimes_14 ?_
        refine G.iald hX (j := t) 1 rfl (by omega) (by omega) dX0_noLimes_15 ?_
        refine G.if_eq hX (tgt := 22) (by decide) dX0_noLimes_16 (fun c16 => ?_) (fun c16 => ?_)
        · refine G.lve (lv' := [(0, .ref (a 0)), (1, .int (nI (it (av_nlS q) (t + 1) 0))), (2, .int (nI t))]) (by first | rfl | (simp only [it_s, av_nlS, c7, c16, ↓reduceIte, Bool.not_true, Bool.not_false, Bool.and_true, Bool.true_and, Bool.and_false, Bool.false_and, Bool.or_true, Bool.true_or, Bool.or_false, Bool.false_or, decide_true, decide_false, not_true_eq_false, not_false_eq_true, Bool.false_eq_true, Bool.true_eq_false]; done) | (simp only [it_s, av_nlS, c7, c16, ↓reduceIte, Bool.not_true, Bool.not_false, Bool.and_true, Bool.true_and, Bool.and_false, Bool.false_and, Bool.or_true, Bool.true_or, Bool.or_false, Bool.false_or, decide_true, decide_false, not_true_eq_false, not_false_eq_true, Bool.false_eq_true, Bool.true_eq_false]; rfl) | (simp [it_s, av_nlS, c7, c16]; done)) ?_
          exact J22
        · refine G.iinc hX (n := 1) (lv' := [(1, .int (nI ((it (av_nlS q) t 0) + 1))), (0, .ref (a 0)), (2, .int (nI t))]) 1 rfl (inc_nI (it (av_nlS q) t 0) 1 rfl) (by decide) rfl dX0_noLimes_19 ?_
          refine G.lvp (lv' := [(0, .ref (a 0)), (1, .int (nI ((it (av_nlS q) t 0) + 1))), (2, .int (nI t))]) [1, 0, 2] rfl ?_
          refine G.lve (lv' := [(0, .ref (a 0)), (1, .int (nI (it (av_nlS q) (t + 1) 0))), (2, .int (nI t))]) (by first | rfl | (simp only [it_s, av_nlS, c7, c16, ↓reduceIte, Bool.not_true, Bool.not_false, Bool.and_true, Bool.true_and, Bool.and_false, Bool.false_and, Bool.or_true, Bool.true_or, Bool.or_false, Bool.false_or, decide_true, decide_false, not_true_eq_false, not_false_eq_true, Bool.false_eq_true, Bool.true_eq_false]; done) | (simp only [it_s, av_nlS, c7, c16, ↓reduceIte, Bool.not_true, Bool.not_false, Bool.and_true, Bool.true_and, Bool.and_false, Bool.false_and, Bool.or_true, Bool.true_or, Bool.or_false, Bool.false_or, decide_true, decide_false, not_true_eq_false, not_false_eq_true, Bool.false_eq_true, Bool.true_eq_false]; rfl) | (simp [it_s, av_nlS, c7, c16]; done)) ?_
          exact J22
  refine G.lvp (lv' := [(0, .ref (a 0)), (1, .int 0), (2, .int 0)]) [2, 1, 0] rfl ?_
  refine G.lve (lv' := [(0, .ref (a 0)), (1, .int (nI (it (av_nlS q) 0 0))), (2, .int (nI 0))]) (by rfl) ?_
  exact L4 13 0 (by omega) (by omega)
abbrev rmX0_agesTogether : Room := { frames := 0, cells := 0, slots := 0, locals := 0 }
theorem cp_X0_agesTogether : CP yX0_agesTogether RX0 wsX0_agesTogether 3 0 rmX0_agesTogether := ⟨⟨_, _, _, rfl⟩, rfl, rfl, by decide +kernel⟩
theorem inc_X0_agesTogether_0 : ∀ w ∈ u_ws RX0 TX0 6, w ∈ wsX0_agesTogether := by decide +kernel
set_option maxHeartbeats 4000000 in
set_option maxRecDepth 100000 in
theorem c_X0_agesTogether (l : Launch) (E : EV) (q : AV) (a : Nat → Nat)  : CI l yX0_agesTogether wsX0_agesTogether rmX0_agesTogether E [.ref (a 0)] [(a 0, avO a q.1 q.2.1), (a 1, arI E 12 q.2.2.1), (a 2, arI E 12 q.2.2.2.1), (a 3, arI E 12 q.2.2.2.2.1), (a 4, arI E 96 q.2.2.2.2.2)] [(a 0, avO a q.1 q.2.1), (a 1, arI E 12 q.2.2.1), (a 2, arI E 12 q.2.2.2.1), (a 3, arI E 12 q.2.2.2.2.1), (a 4, arI E 96 q.2.2.2.2.2)] (av_ag q) := by
  refine CI.of (own := RX0) (cc := cX0_agesTogether) (nL := 3) (rt := (some .int)) (by decide) rfl rfl (Nat.le_of_ble_eq_true rfl) (fun X hX hQ => ?_)
  show G E X 3 0 [(0, .ref (a 0))] [] [(a 0, avO a q.1 q.2.1), (a 1, arI E 12 q.2.2.1), (a 2, arI E 12 q.2.2.2.1), (a 3, arI E 12 q.2.2.2.2.1), (a 4, arI E 96 q.2.2.2.2.2)]
  refine G.iconst hX (v := 0) (by decide) dX0_agesTogether_0 ?_
  refine G.istore_n hX (lv' := [(1, .int 0), (0, .ref (a 0))]) rfl (by decide) rfl dX0_agesTogether_1 ?_
  refine G.iconst hX (v := 0) (by decide) dX0_agesTogether_2 ?_
  refine G.istore_n hX (lv' := [(2, .int 0), (1, .int 0), (0, .ref (a 0))]) rfl (by decide) rfl dX0_agesTogether_3 ?_
  have L4 : ∀ (n : Nat) (t : Nat), t ≤ 12 → 13 ≤ t + n → G E X 3 4 [(0, .ref (a 0)), (1, .int (it (av_agS q) t 0)), (2, .int (nI t))] [] [(a 0, avO a q.1 q.2.1), (a 1, arI E 12 q.2.2.1), (a 2, arI E 12 q.2.2.2.1), (a 3, arI E 12 q.2.2.2.2.1), (a 4, arI E 96 q.2.2.2.2.2)] := by
    intro n
    induction n with
    | zero => intro t hl4_0 hl4_1; exact absurd hl4_1 (by omega)
    | succ n ih4 =>
      intro t hl4_0 hl4_1
      refine G.iload_n hX 2 rfl dX0_agesTogether_4 ?_
      refine G.bipush hX (v := 12) (by decide) dX0_agesTogether_5 ?_
      refine G.n_ge hX (a := t) (b := 12) (tgt := 25) (by omega) (by omega) (by decide) dX0_agesTogether_7 (fun c7 => ?_) (fun c7 => ?_)
      · refine G.iload_n hX 1 rfl dX0_agesTogether_25 ?_
        exact G.iret hX hQ dX0_agesTogether_26 (by obtain rfl : t = 12 := (by omega); rfl) (by rfl)
      · refine G.iload_n hX 1 rfl dX0_agesTogether_10 ?_
        refine G.aload_n hX 0 rfl dX0_agesTogether_11 ?_
        refine G.get hX inc_X0_agesTogether_0 0 rfl rfl 3 (by decide) (by decide +kernel) rfl dX0_agesTogether_12 ?_
        refine G.iload_n hX 2 rfl dX0_agesTogether_15 ?_
        refine G.iald hX (j := t) 2 rfl (by omega) (by omega) dX0_agesTogether_16 ?_
        refine G.iadd hX dX0_agesTogether_17 ?_
        refine G.istore_n hX (lv' := [(1, .int ((it (av_agS q) t 0) + (q.2.2.2.1 t))), (0, .ref (a 0)), (2, .int (nI t))]) rfl (by decide) rfl dX0_agesTogether_18 ?_
        refine G.iinc hX (n := 1) (lv' := [(2, .int (nI (t + 1))), (1, .int ((it (av_agS q) t 0) + (q.2.2.2.1 t))), (0, .ref (a 0))]) 2 rfl (inc_nI t 1 rfl) (by decide) rfl dX0_agesTogether_19 ?_
        refine G.goto hX (tgt := 4) (by decide) dX0_agesTogether_22 ?_
        refine G.lvp (lv' := [(0, .ref (a 0)), (1, .int ((it (av_agS q) t 0) + (q.2.2.2.1 t))), (2, .int (nI (t + 1)))]) [2, 1, 0] rfl ?_
        refine G.lve (lv' := [(0, .ref (a 0)), (1, .int (it (av_agS q) (t + 1) 0)), (2, .int (nI ((t + 1))))]) (by rfl) ?_
        exact ih4 (t + 1) (by omega) (by omega)
  refine G.lvp (lv' := [(0, .ref (a 0)), (1, .int 0), (2, .int 0)]) [2, 1, 0] rfl ?_
  refine G.lve (lv' := [(0, .ref (a 0)), (1, .int (it (av_agS q) 0 0)), (2, .int (nI 0))]) (by rfl) ?_
  exact L4 13 0 (by omega) (by omega)
abbrev rmX0_isIntroduced : Room := { frames := 0, cells := 0, slots := 0, locals := 0 }
theorem cp_X0_isIntroduced : CP yX0_isIntroduced RX0 wsX0_isIntroduced 2 1 rmX0_isIntroduced := ⟨⟨_, _, _, rfl⟩, rfl, rfl, by decide +kernel⟩
theorem inc_X0_isIntroduced_0 : ∀ w ∈ u_ws RX0 TX0 6, w ∈ wsX0_isIntroduced := by decide +kernel
set_option maxHeartbeats 4000000 in
set_option maxRecDepth 100000 in
theorem c_X0_isIntroduced (l : Launch) (E : EV) (q : AV) (pl : Nat) (a : Nat → Nat) (h1 : pl < 6) : CI l yX0_isIntroduced wsX0_isIntroduced rmX0_isIntroduced E [.ref (a 0), .int (nI pl)] [(a 0, avO a q.1 q.2.1), (a 1, arI E 12 q.2.2.1), (a 2, arI E 12 q.2.2.2.1), (a 3, arI E 12 q.2.2.2.2.1), (a 4, arI E 96 q.2.2.2.2.2)] [(a 0, avO a q.1 q.2.1), (a 1, arI E 12 q.2.2.1), (a 2, arI E 12 q.2.2.2.1), (a 3, arI E 12 q.2.2.2.2.1), (a 4, arI E 96 q.2.2.2.2.2)] (bI (av_met q pl)) := by
  refine CI.of (own := RX0) (cc := cX0_isIntroduced) (nL := 2) (rt := (some .boolean)) (by decide) rfl rfl (Nat.le_of_ble_eq_true rfl) (fun X hX hQ => ?_)
  show G E X 2 0 [(0, .ref (a 0)), (1, .int (nI pl))] [] [(a 0, avO a q.1 q.2.1), (a 1, arI E 12 q.2.2.1), (a 2, arI E 12 q.2.2.2.1), (a 3, arI E 12 q.2.2.2.2.1), (a 4, arI E 96 q.2.2.2.2.2)]
  refine G.aload_n hX 0 rfl dX0_isIntroduced_0 ?_
  refine G.get hX inc_X0_isIntroduced_0 0 rfl rfl 1 (by decide) (by decide +kernel) rfl dX0_isIntroduced_1 ?_
  refine G.iload_n hX 1 rfl dX0_isIntroduced_4 ?_
  refine G.ishr hX dX0_isIntroduced_5 ?_
  refine G.iconst hX (v := 1) (by decide) dX0_isIntroduced_6 ?_
  refine G.iand hX dX0_isIntroduced_7 ?_
  refine G.iconst hX (v := 1) (by decide) dX0_isIntroduced_8 ?_
  refine G.icmp_ne hX (tgt := 16) (by decide) dX0_isIntroduced_9 (fun c9 => ?_) (fun c9 => ?_)
  · refine G.iconst hX (v := 0) (by decide) dX0_isIntroduced_16 ?_
    exact G.zret hX hQ rfl dX0_isIntroduced_17 (bI_0.mpr (by first | rfl | (simp only [av_met, c9, ↓reduceIte, Bool.not_true, Bool.not_false, Bool.and_true, Bool.true_and, Bool.and_false, Bool.false_and, Bool.or_true, Bool.true_or, Bool.or_false, Bool.false_or, decide_true, decide_false, not_true_eq_false, not_false_eq_true, Bool.false_eq_true, Bool.true_eq_false]; done) | (simp only [av_met, c9, ↓reduceIte, Bool.not_true, Bool.not_false, Bool.and_true, Bool.true_and, Bool.and_false, Bool.false_and, Bool.or_true, Bool.true_or, Bool.or_false, Bool.false_or, decide_true, decide_false, not_true_eq_false, not_false_eq_true, Bool.false_eq_true, Bool.true_eq_false]; rfl) | (simp [av_met, c9]; done))).symm (by rfl)
  · refine G.iconst hX (v := 1) (by decide) dX0_isIntroduced_12 ?_
    refine G.goto hX (tgt := 17) (by decide) dX0_isIntroduced_13 ?_
    exact G.zret hX hQ rfl dX0_isIntroduced_17 (bI_1.mpr (by first | rfl | (simp only [av_met, c9, ↓reduceIte, Bool.not_true, Bool.not_false, Bool.and_true, Bool.true_and, Bool.and_false, Bool.false_and, Bool.or_true, Bool.true_or, Bool.or_false, Bool.false_or, decide_true, decide_false, not_true_eq_false, not_false_eq_true, Bool.false_eq_true, Bool.true_eq_false]; done) | (simp only [av_met, c9, ↓reduceIte, Bool.not_true, Bool.not_false, Bool.and_true, Bool.true_and, Bool.and_false, Bool.false_and, Bool.or_true, Bool.true_or, Bool.or_false, Bool.false_or, decide_true, decide_false, not_true_eq_false, not_false_eq_true, Bool.false_eq_true, Bool.true_eq_false]; rfl) | (simp [av_met, c9]; done))).symm (by rfl)
abbrev rmX0_setIntroduced : Room := { frames := 0, cells := 0, slots := 0, locals := 0 }
theorem cp_X0_setIntroduced : CP yX0_setIntroduced RX0 wsX0_setIntroduced 3 2 rmX0_setIntroduced := ⟨⟨_, _, _, rfl⟩, rfl, rfl, by decide +kernel⟩
theorem inc_X0_setIntroduced_0 : ∀ w ∈ u_ws RX0 TX0 6, w ∈ wsX0_setIntroduced := by decide +kernel
set_option maxHeartbeats 4000000 in
set_option maxRecDepth 100000 in
theorem c_X0_setIntroduced (l : Launch) (E : EV) (q : AV) (pl : Nat) (b : Bool) (a : Nat → Nat) (h1 : pl < 6) : CV l yX0_setIntroduced wsX0_setIntroduced rmX0_setIntroduced E [.ref (a 0), .int (nI pl), .int (bI b)] [(a 0, avO a q.1 q.2.1), (a 1, arI E 12 q.2.2.1), (a 2, arI E 12 q.2.2.2.1), (a 3, arI E 12 q.2.2.2.2.1), (a 4, arI E 96 q.2.2.2.2.2)] [(a 0, avO a ((av_setI q pl b).1) ((av_setI q pl b).2.1)), (a 1, arI E 12 ((av_setI q pl b).2.2.1)), (a 2, arI E 12 ((av_setI q pl b).2.2.2.1)), (a 3, arI E 12 ((av_setI q pl b).2.2.2.2.1)), (a 4, arI E 96 ((av_setI q pl b).2.2.2.2.2))] := by
  refine CV.of (own := RX0) (cc := cX0_setIntroduced) (nL := 3) (rt := none) (by decide) rfl rfl (Nat.le_of_ble_eq_true rfl) (fun X hX hQ => ?_)
  show G E X 3 0 [(0, .ref (a 0)), (1, .int (nI pl)), (2, .int (bI b))] [] [(a 0, avO a q.1 q.2.1), (a 1, arI E 12 q.2.2.1), (a 2, arI E 12 q.2.2.2.1), (a 3, arI E 12 q.2.2.2.2.1), (a 4, arI E 96 q.2.2.2.2.2)]
  refine G.aload_n hX 0 rfl dX0_setIntroduced_0 ?_
  have J26 : G E X 3 26 [] [.int (if b then q.2.1 ||| (1 <<< (nI pl &&& 31)) else q.2.1 &&& ((1 <<< (nI pl &&& 31)) ^^^ (-1))), .ref (a 0)] [(a 0, avO a q.1 q.2.1), (a 1, arI E 12 q.2.2.1), (a 2, arI E 12 q.2.2.2.1), (a 3, arI E 12 q.2.2.2.2.1), (a 4, arI E 96 q.2.2.2.2.2)] := by
    refine G.put hX (ws' := [(a 0, avO a q.1 (if b then q.2.1 ||| (1 <<< (nI pl &&& 31)) else q.2.1 &&& ((1 <<< (nI pl &&& 31)) ^^^ (-1)))), (a 1, arI E 12 q.2.2.1), (a 2, arI E 12 q.2.2.2.1), (a 3, arI E 12 q.2.2.2.2.1), (a 4, arI E 96 q.2.2.2.2.2)]) inc_X0_setIntroduced_0 tyX0 tyX0_ok nmX0 0 rfl rfl 1 (by decide) (by decide +kernel) rfl (tyX0_ok 1 (by decide)) rfl rfl (Nat.le_of_ble_eq_true rfl) rfl rfl dX0_setIntroduced_26 ?_
    exact G.vret hX hQ dX0_setIntroduced_29 (by rfl)
  refine G.iload_n hX 2 rfl dX0_setIntroduced_1 ?_
  refine G.b_eq hX (tgt := 16) (by decide) dX0_setIntroduced_2 (fun c2 => ?_) (fun c2 => ?_)
  · refine G.aload_n hX 0 rfl dX0_setIntroduced_16 ?_
    refine G.get hX inc_X0_setIntroduced_0 0 rfl rfl 1 (by decide) (by decide +kernel) rfl dX0_setIntroduced_17 ?_
    refine G.iconst hX (v := 1) (by decide) dX0_setIntroduced_20 ?_
    refine G.iload_n hX 1 rfl dX0_setIntroduced_21 ?_
    refine G.ishl hX dX0_setIntroduced_22 ?_
    refine G.iconst hX (v := -1) (by decide) dX0_setIntroduced_23 ?_
    refine G.ixor hX dX0_setIntroduced_24 ?_
    refine G.iand hX dX0_setIntroduced_25 ?_
    refine G.lvp (lv' := []) [] rfl ?_
    refine G.ve (y := .int (if b then q.2.1 ||| (1 <<< (nI pl &&& 31)) else q.2.1 &&& ((1 <<< (nI pl &&& 31)) ^^^ (-1)))) (by first | rfl | (simp only [c2, ↓reduceIte, Bool.not_true, Bool.not_false, Bool.and_true, Bool.true_and, Bool.and_false, Bool.false_and, Bool.or_true, Bool.true_or, Bool.or_false, Bool.false_or, decide_true, decide_false, not_true_eq_false, not_false_eq_true, Bool.false_eq_true, Bool.true_eq_false]; done) | (simp only [c2, ↓reduceIte, Bool.not_true, Bool.not_false, Bool.and_true, Bool.true_and, Bool.and_false, Bool.false_and, Bool.or_true, Bool.true_or, Bool.or_false, Bool.false_or, decide_true, decide_false, not_true_eq_false, not_false_eq_true, Bool.false_eq_true, Bool.true_eq_false]; rfl) | (simp [c2]; done)) ?_
    exact J26
  · refine G.aload_n hX 0 rfl dX0_setIntroduced_5 ?_
    refine G.get hX inc_X0_setIntroduced_0 0 rfl rfl 1 (by decide) (by decide +kernel) rfl dX0_setIntroduced_6 ?_
    refine G.iconst hX (v := 1) (by decide) dX0_setIntroduced_9 ?_
    refine G.iload_n hX 1 rfl dX0_setIntroduced_10 ?_
    refine G.ishl hX dX0_setIntroduced_11 ?_
    refine G.ior hX dX0_setIntroduced_12 ?_
    refine G.goto hX (tgt := 26) (by decide) dX0_setIntroduced_13 ?_
    refine G.lvp (lv' := []) [] rfl ?_
    refine G.ve (y := .int (if b then q.2.1 ||| (1 <<< (nI pl &&& 31)) else q.2.1 &&& ((1 <<< (nI pl &&& 31)) ^^^ (-1)))) (by first | rfl | (simp only [c2, ↓reduceIte, Bool.not_true, Bool.not_false, Bool.and_true, Bool.true_and, Bool.and_false, Bool.false_and, Bool.or_true, Bool.true_or, Bool.or_false, Bool.false_or, decide_true, decide_false, not_true_eq_false, not_false_eq_true, Bool.false_eq_true, Bool.true_eq_false]; done) | (simp only [c2, ↓reduceIte, Bool.not_true, Bool.not_false, Bool.and_true, Bool.true_and, Bool.and_false, Bool.false_and, Bool.or_true, Bool.true_or, Bool.or_false, Bool.false_or, decide_true, decide_false, not_true_eq_false, not_false_eq_true, Bool.false_eq_true, Bool.true_eq_false]; rfl) | (simp [c2]; done)) ?_
    exact J26
abbrev rmX0_leansOf : Room := { frames := 1, cells := 0, slots := 0, locals := 14 }
theorem cp_X0_leansOf : CP yX0_leansOf RX0 wsX0_leansOf 5 1 rmX0_leansOf := ⟨⟨_, _, _, rfl⟩, rfl, rfl, by decide +kernel⟩
theorem inc_X0_leansOf_0 : ∀ w ∈ u_ws RX0 TX0 6, w ∈ wsX0_leansOf := by decide +kernel
set_option maxHeartbeats 4000000 in
set_option maxRecDepth 100000 in
theorem c_X0_leansOf (l : Launch) (E : EV) (q : AV) (t : Nat) (a : Nat → Nat) (h1 : t < 12) : CI l yX0_leansOf wsX0_leansOf rmX0_leansOf E [.ref (a 0), .int (nI t)] [(a 0, avO a q.1 q.2.1), (a 1, arI E 12 q.2.2.1), (a 2, arI E 12 q.2.2.2.1), (a 3, arI E 12 q.2.2.2.2.1), (a 4, arI E 96 q.2.2.2.2.2)] [(a 0, avO a q.1 q.2.1), (a 1, arI E 12 q.2.2.1), (a 2, arI E 12 q.2.2.2.1), (a 3, arI E 12 q.2.2.2.2.1), (a 4, arI E 96 q.2.2.2.2.2)] (av_leans q t) := by
  refine CI.of (own := RX0) (cc := cX0_leansOf) (nL := 5) (rt := (some .int)) (by decide) rfl rfl (Nat.le_of_ble_eq_true rfl) (fun X hX hQ => ?_)
  show G E X 5 0 [(0, .ref (a 0)), (1, .int (nI t))] [] [(a 0, avO a q.1 q.2.1), (a 1, arI E 12 q.2.2.1), (a 2, arI E 12 q.2.2.2.1), (a 3, arI E 12 q.2.2.2.2.1), (a 4, arI E 96 q.2.2.2.2.2)]
  refine G.iconst hX (v := 3) (by decide) dX0_leansOf_0 ?_
  refine G.istore_n hX (lv' := [(2, .int 3), (0, .ref (a 0)), (1, .int (nI t))]) rfl (by decide) rfl dX0_leansOf_1 ?_
  refine G.iload_n hX 0 rfl dX0_leansOf_2 ?_
  refine G.iconst hX (v := 4) (by decide) dX0_leansOf_3 ?_
  refine G.iadd hX dX0_leansOf_4 ?_
  refine G.ie (y := 7) (by decide) ?_
  refine G.istore_n hX (lv' := [(3, .int 7), (2, .int 3), (0, .ref (a 0)), (1, .int (nI t))]) rfl (by decide) rfl dX0_leansOf_5 ?_
  refine G.iload_n hX 1 rfl dX0_leansOf_6 ?_
  refine G.iconst hX (v := 0) (by decide) dX0_leansOf_7 ?_
  refine G.bipush hX (v := 10) (by decide) dX0_leansOf_8 ?_
  refine G.aload_n hX 2 rfl dX0_leansOf_10 ?_
  refine G.get hX inc_X0_leansOf_0 0 rfl rfl 3 (by decide) (by decide +kernel) rfl dX0_leansOf_11 ?_
  refine G.iload_n hX 3 rfl dX0_leansOf_14 ?_
  refine G.iald hX (j := t) 2 rfl (by omega) (by omega) dX0_leansOf_15 ?_
  refine G.isub hX dX0_leansOf_16 ?_
  refine G.mmax hX (by decide +kernel) (by decide +kernel) (by decide +kernel) (by decide +kernel) (by decide) (Nat.le_of_ble_eq_true rfl) dX0_leansOf_17 ?_
  refine G.iadd hX dX0_leansOf_20 ?_
  refine G.ie (y := av_sap q t) (by rfl) ?_
  refine G.istore hX (lv' := [(4, .int (av_sap q t)), (3, .int 7), (2, .int 3), (0, .ref (a 0)), (1, .int (nI t))]) (by decide) rfl dX0_leansOf_21 ?_
  refine G.aload_n hX 3 rfl dX0_leansOf_23 ?_
  refine G.get hX inc_X0_leansOf_0 0 rfl rfl 2 (by decide) (by decide +kernel) rfl dX0_leansOf_24 ?_
  refine G.iload_n hX 4 rfl dX0_leansOf_27 ?_
  refine G.iald hX (j := t) 1 rfl (by omega) (by omega) dX0_leansOf_28 ?_
  refine G.ie (y := q.2.2.1 t) rfl ?_
  by_cases c29_1 : q.2.2.1 t = 1
  · refine G.ie (y := 1) c29_1 ?_
    refine G.tin hX (tgt := 64) dX0_leansOf_29 (by decide) (by decide) rfl (by decide) ?_
    refine G.iload_n hX 1 rfl dX0_leansOf_64 ?_
    exact G.iret hX hQ dX0_leansOf_65 (by first | rfl | (simp only [av_leans, c29_1, ↓reduceIte, Bool.not_true, Bool.not_false, Bool.and_true, Bool.true_and, Bool.and_false, Bool.false_and, Bool.or_true, Bool.true_or, Bool.or_false, Bool.false_or, decide_true, decide_false, not_true_eq_false, not_false_eq_true, Bool.false_eq_true, Bool.true_eq_false]; done) | (simp only [av_leans, c29_1, ↓reduceIte, Bool.not_true, Bool.not_false, Bool.and_true, Bool.true_and, Bool.and_false, Bool.false_and, Bool.or_true, Bool.true_or, Bool.or_false, Bool.false_or, decide_true, decide_false, not_true_eq_false, not_false_eq_true, Bool.false_eq_true, Bool.true_eq_false]; rfl) | (simp [av_leans, c29_1]; done)) (by rfl)
  by_cases c29_2 : q.2.2.1 t = 2
  · refine G.ie (y := 2) c29_2 ?_
    refine G.tin hX (tgt := 66) dX0_leansOf_29 (by decide) (by decide) rfl (by decide) ?_
    refine G.iload hX 0 rfl dX0_leansOf_66 ?_
    exact G.iret hX hQ dX0_leansOf_68 (by first | rfl | (simp only [av_leans, c29_1, c29_2, ↓reduceIte, Bool.not_true, Bool.not_false, Bool.and_true, Bool.true_and, Bool.and_false, Bool.false_and, Bool.or_true, Bool.true_or, Bool.or_false, Bool.false_or, decide_true, decide_false, not_true_eq_false, not_false_eq_true, Bool.false_eq_true, Bool.true_eq_false]; done) | (simp only [av_leans, c29_1, c29_2, ↓reduceIte, Bool.not_true, Bool.not_false, Bool.and_true, Bool.true_and, Bool.and_false, Bool.false_and, Bool.or_true, Bool.true_or, Bool.or_false, Bool.false_or, decide_true, decide_false, not_true_eq_false, not_false_eq_true, Bool.false_eq_true, Bool.true_eq_false]; rfl) | (simp [av_leans, c29_1, c29_2]; done)) (by rfl)
  by_cases c29_3 : q.2.2.1 t = 3
  · refine G.ie (y := 3) c29_3 ?_
    refine G.tin hX (tgt := 69) dX0_leansOf_29 (by decide) (by decide) rfl (by decide) ?_
    refine G.sipush hX (v := 999) (by decide) dX0_leansOf_69 ?_
    exact G.iret hX hQ dX0_leansOf_72 (by first | rfl | (simp only [av_leans, c29_1, c29_2, c29_3, ↓reduceIte, Bool.not_true, Bool.not_false, Bool.and_true, Bool.true_and, Bool.and_false, Bool.false_and, Bool.or_true, Bool.true_or, Bool.or_false, Bool.false_or, decide_true, decide_false, not_true_eq_false, not_false_eq_true, Bool.false_eq_true, Bool.true_eq_false]; done) | (simp only [av_leans, c29_1, c29_2, c29_3, ↓reduceIte, Bool.not_true, Bool.not_false, Bool.and_true, Bool.true_and, Bool.and_false, Bool.false_and, Bool.or_true, Bool.true_or, Bool.or_false, Bool.false_or, decide_true, decide_false, not_true_eq_false, not_false_eq_true, Bool.false_eq_true, Bool.true_eq_false]; rfl) | (simp [av_leans, c29_1, c29_2, c29_3]; done)) (by rfl)
  by_cases c29_4 : q.2.2.1 t = 4
  · refine G.ie (y := 4) c29_4 ?_
    refine G.tin hX (tgt := 73) dX0_leansOf_29 (by decide) (by decide) rfl (by decide) ?_
    refine G.iconst hX (v := 2) (by decide) dX0_leansOf_73 ?_
    refine G.iload_n hX 1 rfl dX0_leansOf_74 ?_
    refine G.imul hX dX0_leansOf_75 ?_
    refine G.ie (y := 14) (by decide) ?_
    exact G.iret hX hQ dX0_leansOf_76 (by first | rfl | (simp only [av_leans, c29_1, c29_2, c29_3, c29_4, ↓reduceIte, Bool.not_true, Bool.not_false, Bool.and_true, Bool.true_and, Bool.and_false, Bool.false_and, Bool.or_true, Bool.true_or, Bool.or_false, Bool.false_or, decide_true, decide_false, not_true_eq_false, not_false_eq_true, Bool.false_eq_true, Bool.true_eq_false]; done) | (simp only [av_leans, c29_1, c29_2, c29_3, c29_4, ↓reduceIte, Bool.not_true, Bool.not_false, Bool.and_true, Bool.true_and, Bool.and_false, Bool.false_and, Bool.or_true, Bool.true_or, Bool.or_false, Bool.false_or, decide_true, decide_false, not_true_eq_false, not_false_eq_true, Bool.false_eq_true, Bool.true_eq_false]; rfl) | (simp [av_leans, c29_1, c29_2, c29_3, c29_4]; done)) (by rfl)
  by_cases c29_5 : q.2.2.1 t = 5
  · refine G.ie (y := 5) c29_5 ?_
    refine G.tin hX (tgt := 77) dX0_leansOf_29 (by decide) (by decide) rfl (by decide) ?_
    refine G.iload hX 0 rfl dX0_leansOf_77 ?_
    refine G.iconst hX (v := 2) (by decide) dX0_leansOf_79 ?_
    refine G.isub hX dX0_leansOf_80 ?_
    exact G.iret hX hQ dX0_leansOf_81 (by first | rfl | (simp only [av_leans, c29_1, c29_2, c29_3, c29_4, c29_5, ↓reduceIte, Bool.not_true, Bool.not_false, Bool.and_true, Bool.true_and, Bool.and_false, Bool.false_and, Bool.or_true, Bool.true_or, Bool.or_false, Bool.false_or, decide_true, decide_false, not_true_eq_false, not_false_eq_true, Bool.false_eq_true, Bool.true_eq_false]; done) | (simp only [av_leans, c29_1, c29_2, c29_3, c29_4, c29_5, ↓reduceIte, Bool.not_true, Bool.not_false, Bool.and_true, Bool.true_and, Bool.and_false, Bool.false_and, Bool.or_true, Bool.true_or, Bool.or_false, Bool.false_or, decide_true, decide_false, not_true_eq_false, not_false_eq_true, Bool.false_eq_true, Bool.true_eq_false]; rfl) | (simp [av_leans, c29_1, c29_2, c29_3, c29_4, c29_5]; done)) (by rfl)
  refine G.tout hX (tgt := 82) dX0_leansOf_29 (by have t1 := ne_toInt c29_1; have t2 := ne_toInt c29_2; have t3 := ne_toInt c29_3; have t4 := ne_toInt c29_4; have t5 := ne_toInt c29_5; simp at t1 t2 t3 t4 t5; omega) (by decide) ?_
  refine G.iload_n hX 2 rfl dX0_leansOf_82 ?_
  exact G.iret hX hQ dX0_leansOf_83 (by first | rfl | (simp only [av_leans, c29_1, c29_2, c29_3, c29_4, c29_5, ↓reduceIte, Bool.not_true, Bool.not_false, Bool.and_true, Bool.true_and, Bool.and_false, Bool.false_and, Bool.or_true, Bool.true_or, Bool.or_false, Bool.false_or, decide_true, decide_false, not_true_eq_false, not_false_eq_true, Bool.false_eq_true, Bool.true_eq_false]; done) | (simp only [av_leans, c29_1, c29_2, c29_3, c29_4, c29_5, ↓reduceIte, Bool.not_true, Bool.not_false, Bool.and_true, Bool.true_and, Bool.and_false, Bool.false_and, Bool.or_true, Bool.true_or, Bool.or_false, Bool.false_or, decide_true, decide_false, not_true_eq_false, not_false_eq_true, Bool.false_eq_true, Bool.true_eq_false]; rfl) | (simp [av_leans, c29_1, c29_2, c29_3, c29_4, c29_5]; done)) (by rfl)
abbrev rmX0_nodsOf : Room := { frames := 0, cells := 0, slots := 0, locals := 0 }
theorem cp_X0_nodsOf : CP yX0_nodsOf RX0 wsX0_nodsOf 3 1 rmX0_nodsOf := ⟨⟨_, _, _, rfl⟩, rfl, rfl, by decide +kernel⟩
theorem inc_X0_nodsOf_0 : ∀ w ∈ u_ws RX0 TX0 6, w ∈ wsX0_nodsOf := by decide +kernel
set_option maxHeartbeats 4000000 in
set_option maxRecDepth 100000 in
theorem c_X0_nodsOf (l : Launch) (E : EV) (q : AV) (t : Nat) (a : Nat → Nat) (h1 : t < 12) : CI l yX0_nodsOf wsX0_nodsOf rmX0_nodsOf E [.ref (a 0), .int (nI t)] [(a 0, avO a q.1 q.2.1), (a 1, arI E 12 q.2.2.1), (a 2, arI E 12 q.2.2.2.1), (a 3, arI E 12 q.2.2.2.2.1), (a 4, arI E 96 q.2.2.2.2.2)] [(a 0, avO a q.1 q.2.1), (a 1, arI E 12 q.2.2.1), (a 2, arI E 12 q.2.2.2.1), (a 3, arI E 12 q.2.2.2.2.1), (a 4, arI E 96 q.2.2.2.2.2)] (av_nods q t) := by
  refine CI.of (own := RX0) (cc := cX0_nodsOf) (nL := 3) (rt := (some .int)) (by decide) rfl rfl (Nat.le_of_ble_eq_true rfl) (fun X hX hQ => ?_)
  show G E X 3 0 [(0, .ref (a 0)), (1, .int (nI t))] [] [(a 0, avO a q.1 q.2.1), (a 1, arI E 12 q.2.2.1), (a 2, arI E 12 q.2.2.2.1), (a 3, arI E 12 q.2.2.2.2.1), (a 4, arI E 96 q.2.2.2.2.2)]
  refine G.iconst hX (v := 1) (by decide) dX0_nodsOf_0 ?_
  refine G.istore_n hX (lv' := [(2, .int 1), (0, .ref (a 0)), (1, .int (nI t))]) rfl (by decide) rfl dX0_nodsOf_1 ?_
  refine G.aload_n hX 1 rfl dX0_nodsOf_2 ?_
  refine G.get hX inc_X0_nodsOf_0 0 rfl rfl 2 (by decide) (by decide +kernel) rfl dX0_nodsOf_3 ?_
  refine G.iload_n hX 2 rfl dX0_nodsOf_6 ?_
  refine G.iald hX (j := t) 1 rfl (by omega) (by omega) dX0_nodsOf_7 ?_
  refine G.ie (y := q.2.2.1 t) rfl ?_
  by_cases c8_1 : q.2.2.1 t = 1
  · refine G.ie (y := 1) c8_1 ?_
    refine G.tin hX (tgt := 44) dX0_nodsOf_8 (by decide) (by decide) rfl (by decide) ?_
    refine G.iload_n hX 0 rfl dX0_nodsOf_44 ?_
    refine G.iconst hX (v := 1) (by decide) dX0_nodsOf_45 ?_
    refine G.iadd hX dX0_nodsOf_46 ?_
    refine G.ie (y := 2) (by decide) ?_
    exact G.iret hX hQ dX0_nodsOf_47 (by first | rfl | (simp only [av_nods, c8_1, ↓reduceIte, Bool.not_true, Bool.not_false, Bool.and_true, Bool.true_and, Bool.and_false, Bool.false_and, Bool.or_true, Bool.true_or, Bool.or_false, Bool.false_or, decide_true, decide_false, not_true_eq_false, not_false_eq_true, Bool.false_eq_true, Bool.true_eq_false]; done) | (simp only [av_nods, c8_1, ↓reduceIte, Bool.not_true, Bool.not_false, Bool.and_true, Bool.true_and, Bool.and_false, Bool.false_and, Bool.or_true, Bool.true_or, Bool.or_false, Bool.false_or, decide_true, decide_false, not_true_eq_false, not_false_eq_true, Bool.false_eq_true, Bool.true_eq_false]; rfl) | (simp [av_nods, c8_1]; done)) (by rfl)
  by_cases c8_2 : q.2.2.1 t = 2
  · refine G.ie (y := 2) c8_2 ?_
    refine G.tin hX (tgt := 48) dX0_nodsOf_8 (by decide) (by decide) rfl (by decide) ?_
    refine G.aload_n hX 1 rfl dX0_nodsOf_48 ?_
    refine G.get hX inc_X0_nodsOf_0 0 rfl rfl 3 (by decide) (by decide +kernel) rfl dX0_nodsOf_49 ?_
    refine G.iload_n hX 2 rfl dX0_nodsOf_52 ?_
    refine G.iald hX (j := t) 2 rfl (by omega) (by omega) dX0_nodsOf_53 ?_
    refine G.bipush hX (v := 20) (by decide) dX0_nodsOf_54 ?_
    refine G.icmp_ge hX (tgt := 65) (by decide) dX0_nodsOf_56 (fun c56 => ?_) (fun c56 => ?_)
    · refine G.iload_n hX 0 rfl dX0_nodsOf_65 ?_
      exact G.iret hX hQ dX0_nodsOf_66 (by first | rfl | (simp only [av_nods, c8_1, c8_2, c56, ↓reduceIte, Bool.not_true, Bool.not_false, Bool.and_true, Bool.true_and, Bool.and_false, Bool.false_and, Bool.or_true, Bool.true_or, Bool.or_false, Bool.false_or, decide_true, decide_false, not_true_eq_false, not_false_eq_true, Bool.false_eq_true, Bool.true_eq_false]; done) | (simp only [av_nods, c8_1, c8_2, c56, ↓reduceIte, Bool.not_true, Bool.not_false, Bool.and_true, Bool.true_and, Bool.and_false, Bool.false_and, Bool.or_true, Bool.true_or, Bool.or_false, Bool.false_or, decide_true, decide_false, not_true_eq_false, not_false_eq_true, Bool.false_eq_true, Bool.true_eq_false]; rfl) | (simp [av_nods, c8_1, c8_2, c56]; done)) (by rfl)
    · refine G.iconst hX (v := 2) (by decide) dX0_nodsOf_59 ?_
      refine G.iload_n hX 0 rfl dX0_nodsOf_60 ?_
      refine G.imul hX dX0_nodsOf_61 ?_
      refine G.ie (y := 2) (by decide) ?_
      refine G.goto hX (tgt := 66) (by decide) dX0_nodsOf_62 ?_
      exact G.iret hX hQ dX0_nodsOf_66 (by first | rfl | (simp only [av_nods, c8_1, c8_2, c56, ↓reduceIte, Bool.not_true, Bool.not_false, Bool.and_true, Bool.true_and, Bool.and_false, Bool.false_and, Bool.or_true, Bool.true_or, Bool.or_false, Bool.false_or, decide_true, decide_false, not_true_eq_false, not_false_eq_true, Bool.false_eq_true, Bool.true_eq_false]; done) | (simp only [av_nods, c8_1, c8_2, c56, ↓reduceIte, Bool.not_true, Bool.not_false, Bool.and_true, Bool.true_and, Bool.and_false, Bool.false_and, Bool.or_true, Bool.true_or, Bool.or_false, Bool.false_or, decide_true, decide_false, not_true_eq_false, not_false_eq_true, Bool.false_eq_true, Bool.true_eq_false]; rfl) | (simp [av_nods, c8_1, c8_2, c56]; done)) (by rfl)
  by_cases c8_3 : q.2.2.1 t = 3
  · refine G.ie (y := 3) c8_3 ?_
    refine G.tin hX (tgt := 67) dX0_nodsOf_8 (by decide) (by decide) rfl (by decide) ?_
    refine G.sipush hX (v := 999) (by decide) dX0_nodsOf_67 ?_
    exact G.iret hX hQ dX0_nodsOf_70 (by first | rfl | (simp only [av_nods, c8_1, c8_2, c8_3, ↓reduceIte, Bool.not_true, Bool.not_false, Bool.and_true, Bool.true_and, Bool.and_false, Bool.false_and, Bool.or_true, Bool.true_or, Bool.or_false, Bool.false_or, decide_true, decide_false, not_true_eq_false, not_false_eq_true, Bool.false_eq_true, Bool.true_eq_false]; done) | (simp only [av_nods, c8_1, c8_2, c8_3, ↓reduceIte, Bool.not_true, Bool.not_false, Bool.and_true, Bool.true_and, Bool.and_false, Bool.false_and, Bool.or_true, Bool.true_or, Bool.or_false, Bool.false_or, decide_true, decide_false, not_true_eq_false, not_false_eq_true, Bool.false_eq_true, Bool.true_eq_false]; rfl) | (simp [av_nods, c8_1, c8_2, c8_3]; done)) (by rfl)
  by_cases c8_4 : q.2.2.1 t = 4
  · refine G.ie (y := 4) c8_4 ?_
    refine G.tin hX (tgt := 44) dX0_nodsOf_8 (by decide) (by decide) rfl (by decide) ?_
    refine G.iload_n hX 0 rfl dX0_nodsOf_44 ?_
    refine G.iconst hX (v := 1) (by decide) dX0_nodsOf_45 ?_
    refine G.iadd hX dX0_nodsOf_46 ?_
    refine G.ie (y := 2) (by decide) ?_
    exact G.iret hX hQ dX0_nodsOf_47 (by first | rfl | (simp only [av_nods, c8_1, c8_2, c8_3, c8_4, ↓reduceIte, Bool.not_true, Bool.not_false, Bool.and_true, Bool.true_and, Bool.and_false, Bool.false_and, Bool.or_true, Bool.true_or, Bool.or_false, Bool.false_or, decide_true, decide_false, not_true_eq_false, not_false_eq_true, Bool.false_eq_true, Bool.true_eq_false]; done) | (simp only [av_nods, c8_1, c8_2, c8_3, c8_4, ↓reduceIte, Bool.not_true, Bool.not_false, Bool.and_true, Bool.true_and, Bool.and_false, Bool.false_and, Bool.or_true, Bool.true_or, Bool.or_false, Bool.false_or, decide_true, decide_false, not_true_eq_false, not_false_eq_true, Bool.false_eq_true, Bool.true_eq_false]; rfl) | (simp [av_nods, c8_1, c8_2, c8_3, c8_4]; done)) (by rfl)
  by_cases c8_5 : q.2.2.1 t = 5
  · refine G.ie (y := 5) c8_5 ?_
    refine G.tin hX (tgt := 48) dX0_nodsOf_8 (by decide) (by decide) rfl (by decide) ?_
    refine G.aload_n hX 1 rfl dX0_nodsOf_48 ?_
    refine G.get hX inc_X0_nodsOf_0 0 rfl rfl 3 (by decide) (by decide +kernel) rfl dX0_nodsOf_49 ?_
    refine G.iload_n hX 2 rfl dX0_nodsOf_52 ?_
    refine G.iald hX (j := t) 2 rfl (by omega) (by omega) dX0_nodsOf_53 ?_
    refine G.bipush hX (v := 20) (by decide) dX0_nodsOf_54 ?_
    refine G.icmp_ge hX (tgt := 65) (by decide) dX0_nodsOf_56 (fun c56 => ?_) (fun c56 => ?_)
    · refine G.iload_n hX 0 rfl dX0_nodsOf_65 ?_
      exact G.iret hX hQ dX0_nodsOf_66 (by first | rfl | (simp only [av_nods, c8_1, c8_2, c8_3, c8_4, c8_5, c56, ↓reduceIte, Bool.not_true, Bool.not_false, Bool.and_true, Bool.true_and, Bool.and_false, Bool.false_and, Bool.or_true, Bool.true_or, Bool.or_false, Bool.false_or, decide_true, decide_false, not_true_eq_false, not_false_eq_true, Bool.false_eq_true, Bool.true_eq_false]; done) | (simp only [av_nods, c8_1, c8_2, c8_3, c8_4, c8_5, c56, ↓reduceIte, Bool.not_true, Bool.not_false, Bool.and_true, Bool.true_and, Bool.and_false, Bool.false_and, Bool.or_true, Bool.true_or, Bool.or_false, Bool.false_or, decide_true, decide_false, not_true_eq_false, not_false_eq_true, Bool.false_eq_true, Bool.true_eq_false]; rfl) | (simp [av_nods, c8_1, c8_2, c8_3, c8_4, c8_5, c56]; done)) (by rfl)
    · refine G.iconst hX (v := 2) (by decide) dX0_nodsOf_59 ?_
      refine G.iload_n hX 0 rfl dX0_nodsOf_60 ?_
      refine G.imul hX dX0_nodsOf_61 ?_
      refine G.ie (y := 2) (by decide) ?_
      refine G.goto hX (tgt := 66) (by decide) dX0_nodsOf_62 ?_
      exact G.iret hX hQ dX0_nodsOf_66 (by first | rfl | (simp only [av_nods, c8_1, c8_2, c8_3, c8_4, c8_5, c56, ↓reduceIte, Bool.not_true, Bool.not_false, Bool.and_true, Bool.true_and, Bool.and_false, Bool.false_and, Bool.or_true, Bool.true_or, Bool.or_false, Bool.false_or, decide_true, decide_false, not_true_eq_false, not_false_eq_true, Bool.false_eq_true, Bool.true_eq_false]; done) | (simp only [av_nods, c8_1, c8_2, c8_3, c8_4, c8_5, c56, ↓reduceIte, Bool.not_true, Bool.not_false, Bool.and_true, Bool.true_and, Bool.and_false, Bool.false_and, Bool.or_true, Bool.true_or, Bool.or_false, Bool.false_or, decide_true, decide_false, not_true_eq_false, not_false_eq_true, Bool.false_eq_true, Bool.true_eq_false]; rfl) | (simp [av_nods, c8_1, c8_2, c8_3, c8_4, c8_5, c56]; done)) (by rfl)
  refine G.tout hX (tgt := 71) dX0_nodsOf_8 (by have t1 := ne_toInt c8_1; have t2 := ne_toInt c8_2; have t3 := ne_toInt c8_3; have t4 := ne_toInt c8_4; have t5 := ne_toInt c8_5; simp at t1 t2 t3 t4 t5; omega) (by decide) ?_
  refine G.iload_n hX 0 rfl dX0_nodsOf_71 ?_
  exact G.iret hX hQ dX0_nodsOf_72 (by first | rfl | (simp only [av_nods, c8_1, c8_2, c8_3, c8_4, c8_5, ↓reduceIte, Bool.not_true, Bool.not_false, Bool.and_true, Bool.true_and, Bool.and_false, Bool.false_and, Bool.or_true, Bool.true_or, Bool.or_false, Bool.false_or, decide_true, decide_false, not_true_eq_false, not_false_eq_true, Bool.false_eq_true, Bool.true_eq_false]; done) | (simp only [av_nods, c8_1, c8_2, c8_3, c8_4, c8_5, ↓reduceIte, Bool.not_true, Bool.not_false, Bool.and_true, Bool.true_and, Bool.and_false, Bool.false_and, Bool.or_true, Bool.true_or, Bool.or_false, Bool.false_or, decide_true, decide_false, not_true_eq_false, not_false_eq_true, Bool.false_eq_true, Bool.true_eq_false]; rfl) | (simp [av_nods, c8_1, c8_2, c8_3, c8_4, c8_5]; done)) (by rfl)
abbrev rmX0_hears : Room := { frames := 0, cells := 0, slots := 0, locals := 0 }
theorem cp_X0_hears : CP yX0_hears RX0 wsX0_hears 3 2 rmX0_hears := ⟨⟨_, _, _, rfl⟩, rfl, rfl, by decide +kernel⟩
theorem inc_X0_hears_0 : ∀ w ∈ u_ws RX0 TX0 6, w ∈ wsX0_hears := by decide +kernel
set_option maxHeartbeats 4000000 in
set_option maxRecDepth 100000 in
theorem c_X0_hears (l : Launch) (E : EV) (q : AV) (t : Nat) (b : Bool) (a : Nat → Nat) (h1 : t < 12) : CI l yX0_hears wsX0_hears rmX0_hears E [.ref (a 0), .int (nI t), .int (bI b)] [(a 0, avO a q.1 q.2.1), (a 1, arI E 12 q.2.2.1), (a 2, arI E 12 q.2.2.2.1), (a 3, arI E 12 q.2.2.2.2.1), (a 4, arI E 96 q.2.2.2.2.2)] [(a 0, avO a q.1 q.2.1), (a 1, arI E 12 q.2.2.1), (a 2, arI E 12 q.2.2.2.1), (a 3, arI E 12 q.2.2.2.2.1), (a 4, arI E 96 q.2.2.2.2.2)] (bI (av_hear q t b)) := by
  refine CI.of (own := RX0) (cc := cX0_hears) (nL := 3) (rt := (some .boolean)) (by decide) rfl rfl (Nat.le_of_ble_eq_true rfl) (fun X hX hQ => ?_)
  show G E X 3 0 [(0, .ref (a 0)), (1, .int (nI t)), (2, .int (bI b))] [] [(a 0, avO a q.1 q.2.1), (a 1, arI E 12 q.2.2.1), (a 2, arI E 12 q.2.2.2.1), (a 3, arI E 12 q.2.2.2.2.1), (a 4, arI E 96 q.2.2.2.2.2)]
  refine G.aload_n hX 0 rfl dX0_hears_0 ?_
  refine G.get hX inc_X0_hears_0 0 rfl rfl 2 (by decide) (by decide +kernel) rfl dX0_hears_1 ?_
  refine G.iload_n hX 1 rfl dX0_hears_4 ?_
  refine G.iald hX (j := t) 1 rfl (by omega) (by omega) dX0_hears_5 ?_
  refine G.ie (y := q.2.2.1 t) rfl ?_
  by_cases c6_1 : q.2.2.1 t = 1
  · refine G.ie (y := 1) c6_1 ?_
    refine G.tin hX (tgt := 40) dX0_hears_6 (by decide) (by decide) rfl (by decide) ?_
    refine G.aload_n hX 0 rfl dX0_hears_40 ?_
    refine G.get hX inc_X0_hears_0 0 rfl rfl 0 (by decide) (by decide +kernel) rfl dX0_hears_41 ?_
    refine G.iconst hX (v := 3) (by decide) dX0_hears_44 ?_
    refine G.irem hX (by decide) dX0_hears_45 ?_
    refine G.if_eq hX (tgt := 53) (by decide) dX0_hears_46 (fun c46 => ?_) (fun c46 => ?_)
    · refine G.iconst hX (v := 0) (by decide) dX0_hears_53 ?_
      exact G.zret hX hQ rfl dX0_hears_54 (bI_0.mpr (by first | rfl | (simp only [av_hear, c6_1, c46, ↓reduceIte, Bool.not_true, Bool.not_false, Bool.and_true, Bool.true_and, Bool.and_false, Bool.false_and, Bool.or_true, Bool.true_or, Bool.or_false, Bool.false_or, decide_true, decide_false, not_true_eq_false, not_false_eq_true, Bool.false_eq_true, Bool.true_eq_false]; done) | (simp only [av_hear, c6_1, c46, ↓reduceIte, Bool.not_true, Bool.not_false, Bool.and_true, Bool.true_and, Bool.and_false, Bool.false_and, Bool.or_true, Bool.true_or, Bool.or_false, Bool.false_or, decide_true, decide_false, not_true_eq_false, not_false_eq_true, Bool.false_eq_true, Bool.true_eq_false]; rfl) | (simp [av_hear, c6_1, c46]; done))).symm (by rfl)
    · refine G.iconst hX (v := 1) (by decide) dX0_hears_49 ?_
      refine G.goto hX (tgt := 54) (by decide) dX0_hears_50 ?_
      exact G.zret hX hQ rfl dX0_hears_54 (bI_1.mpr (by first | rfl | (simp only [av_hear, c6_1, c46, ↓reduceIte, Bool.not_true, Bool.not_false, Bool.and_true, Bool.true_and, Bool.and_false, Bool.false_and, Bool.or_true, Bool.true_or, Bool.or_false, Bool.false_or, decide_true, decide_false, not_true_eq_false, not_false_eq_true, Bool.false_eq_true, Bool.true_eq_false]; done) | (simp only [av_hear, c6_1, c46, ↓reduceIte, Bool.not_true, Bool.not_false, Bool.and_true, Bool.true_and, Bool.and_false, Bool.false_and, Bool.or_true, Bool.true_or, Bool.or_false, Bool.false_or, decide_true, decide_false, not_true_eq_false, not_false_eq_true, Bool.false_eq_true, Bool.true_eq_false]; rfl) | (simp [av_hear, c6_1, c46]; done))).symm (by rfl)
  by_cases c6_2 : q.2.2.1 t = 2
  · refine G.ie (y := 2) c6_2 ?_
    refine G.tin hX (tgt := 55) dX0_hears_6 (by decide) (by decide) rfl (by decide) ?_
    refine G.aload_n hX 0 rfl dX0_hears_55 ?_
    refine G.get hX inc_X0_hears_0 0 rfl rfl 3 (by decide) (by decide +kernel) rfl dX0_hears_56 ?_
    refine G.iload_n hX 1 rfl dX0_hears_59 ?_
    refine G.iald hX (j := t) 2 rfl (by omega) (by omega) dX0_hears_60 ?_
    refine G.iconst hX (v := 5) (by decide) dX0_hears_61 ?_
    refine G.icmp_lt hX (tgt := 69) (by decide) dX0_hears_62 (fun c62 => ?_) (fun c62 => ?_)
    · refine G.iconst hX (v := 0) (by decide) dX0_hears_69 ?_
      exact G.zret hX hQ rfl dX0_hears_70 (bI_0.mpr (by first | rfl | (simp only [av_hear, c6_1, c6_2, c62, ↓reduceIte, Bool.not_true, Bool.not_false, Bool.and_true, Bool.true_and, Bool.and_false, Bool.false_and, Bool.or_true, Bool.true_or, Bool.or_false, Bool.false_or, decide_true, decide_false, not_true_eq_false, not_false_eq_true, Bool.false_eq_true, Bool.true_eq_false]; done) | (simp only [av_hear, c6_1, c6_2, c62, ↓reduceIte, Bool.not_true, Bool.not_false, Bool.and_true, Bool.true_and, Bool.and_false, Bool.false_and, Bool.or_true, Bool.true_or, Bool.or_false, Bool.false_or, decide_true, decide_false, not_true_eq_false, not_false_eq_true, Bool.false_eq_true, Bool.true_eq_false]; rfl) | (simp [av_hear, c6_1, c6_2, c62]; done))).symm (by rfl)
    · refine G.iconst hX (v := 1) (by decide) dX0_hears_65 ?_
      refine G.goto hX (tgt := 70) (by decide) dX0_hears_66 ?_
      exact G.zret hX hQ rfl dX0_hears_70 (bI_1.mpr (by first | rfl | (simp only [av_hear, c6_1, c6_2, c62, ↓reduceIte, Bool.not_true, Bool.not_false, Bool.and_true, Bool.true_and, Bool.and_false, Bool.false_and, Bool.or_true, Bool.true_or, Bool.or_false, Bool.false_or, decide_true, decide_false, not_true_eq_false, not_false_eq_true, Bool.false_eq_true, Bool.true_eq_false]; done) | (simp only [av_hear, c6_1, c6_2, c62, ↓reduceIte, Bool.not_true, Bool.not_false, Bool.and_true, Bool.true_and, Bool.and_false, Bool.false_and, Bool.or_true, Bool.true_or, Bool.or_false, Bool.false_or, decide_true, decide_false, not_true_eq_false, not_false_eq_true, Bool.false_eq_true, Bool.true_eq_false]; rfl) | (simp [av_hear, c6_1, c6_2, c62]; done))).symm (by rfl)
  by_cases c6_3 : q.2.2.1 t = 3
  · refine G.ie (y := 3) c6_3 ?_
    refine G.tin hX (tgt := 91) dX0_hears_6 (by decide) (by decide) rfl (by decide) ?_
    refine G.iconst hX (v := 0) (by decide) dX0_hears_91 ?_
    exact G.zret hX hQ rfl dX0_hears_92 (bI_0.mpr (by first | rfl | (simp only [av_hear, c6_1, c6_2, c6_3, ↓reduceIte, Bool.not_true, Bool.not_false, Bool.and_true, Bool.true_and, Bool.and_false, Bool.false_and, Bool.or_true, Bool.true_or, Bool.or_false, Bool.false_or, decide_true, decide_false, not_true_eq_false, not_false_eq_true, Bool.false_eq_true, Bool.true_eq_false]; done) | (simp only [av_hear, c6_1, c6_2, c6_3, ↓reduceIte, Bool.not_true, Bool.not_false, Bool.and_true, Bool.true_and, Bool.and_false, Bool.false_and, Bool.or_true, Bool.true_or, Bool.or_false, Bool.false_or, decide_true, decide_false, not_true_eq_false, not_false_eq_true, Bool.false_eq_true, Bool.true_eq_false]; rfl) | (simp [av_hear, c6_1, c6_2, c6_3]; done))).symm (by rfl)
  by_cases c6_4 : q.2.2.1 t = 4
  · refine G.ie (y := 4) c6_4 ?_
    refine G.tin hX (tgt := 40) dX0_hears_6 (by decide) (by decide) rfl (by decide) ?_
    refine G.aload_n hX 0 rfl dX0_hears_40 ?_
    refine G.get hX inc_X0_hears_0 0 rfl rfl 0 (by decide) (by decide +kernel) rfl dX0_hears_41 ?_
    refine G.iconst hX (v := 3) (by decide) dX0_hears_44 ?_
    refine G.irem hX (by decide) dX0_hears_45 ?_
    refine G.if_eq hX (tgt := 53) (by decide) dX0_hears_46 (fun c46 => ?_) (fun c46 => ?_)
    · refine G.iconst hX (v := 0) (by decide) dX0_hears_53 ?_
      exact G.zret hX hQ rfl dX0_hears_54 (bI_0.mpr (by first | rfl | (simp only [av_hear, c6_1, c6_2, c6_3, c6_4, c46, ↓reduceIte, Bool.not_true, Bool.not_false, Bool.and_true, Bool.true_and, Bool.and_false, Bool.false_and, Bool.or_true, Bool.true_or, Bool.or_false, Bool.false_or, decide_true, decide_false, not_true_eq_false, not_false_eq_true, Bool.false_eq_true, Bool.true_eq_false]; done) | (simp only [av_hear, c6_1, c6_2, c6_3, c6_4, c46, ↓reduceIte, Bool.not_true, Bool.not_false, Bool.and_true, Bool.true_and, Bool.and_false, Bool.false_and, Bool.or_true, Bool.true_or, Bool.or_false, Bool.false_or, decide_true, decide_false, not_true_eq_false, not_false_eq_true, Bool.false_eq_true, Bool.true_eq_false]; rfl) | (simp [av_hear, c6_1, c6_2, c6_3, c6_4, c46]; done))).symm (by rfl)
    · refine G.iconst hX (v := 1) (by decide) dX0_hears_49 ?_
      refine G.goto hX (tgt := 54) (by decide) dX0_hears_50 ?_
      exact G.zret hX hQ rfl dX0_hears_54 (bI_1.mpr (by first | rfl | (simp only [av_hear, c6_1, c6_2, c6_3, c6_4, c46, ↓reduceIte, Bool.not_true, Bool.not_false, Bool.and_true, Bool.true_and, Bool.and_false, Bool.false_and, Bool.or_true, Bool.true_or, Bool.or_false, Bool.false_or, decide_true, decide_false, not_true_eq_false, not_false_eq_true, Bool.false_eq_true, Bool.true_eq_false]; done) | (simp only [av_hear, c6_1, c6_2, c6_3, c6_4, c46, ↓reduceIte, Bool.not_true, Bool.not_false, Bool.and_true, Bool.true_and, Bool.and_false, Bool.false_and, Bool.or_true, Bool.true_or, Bool.or_false, Bool.false_or, decide_true, decide_false, not_true_eq_false, not_false_eq_true, Bool.false_eq_true, Bool.true_eq_false]; rfl) | (simp [av_hear, c6_1, c6_2, c6_3, c6_4, c46]; done))).symm (by rfl)
  by_cases c6_5 : q.2.2.1 t = 5
  · refine G.ie (y := 5) c6_5 ?_
    refine G.tin hX (tgt := 71) dX0_hears_6 (by decide) (by decide) rfl (by decide) ?_
    refine G.iload_n hX 2 rfl dX0_hears_71 ?_
    refine G.b_ne hX (tgt := 85) (by decide) dX0_hears_72 (fun c72 => ?_) (fun c72 => ?_)
    · refine G.iconst hX (v := 1) (by decide) dX0_hears_85 ?_
      refine G.goto hX (tgt := 90) (by decide) dX0_hears_86 ?_
      exact G.zret hX hQ rfl dX0_hears_90 (bI_1.mpr (by first | rfl | (simp only [av_hear, c6_1, c6_2, c6_3, c6_4, c6_5, c72, ↓reduceIte, Bool.not_true, Bool.not_false, Bool.and_true, Bool.true_and, Bool.and_false, Bool.false_and, Bool.or_true, Bool.true_or, Bool.or_false, Bool.false_or, decide_true, decide_false, not_true_eq_false, not_false_eq_true, Bool.false_eq_true, Bool.true_eq_false]; done) | (simp only [av_hear, c6_1, c6_2, c6_3, c6_4, c6_5, c72, ↓reduceIte, Bool.not_true, Bool.not_false, Bool.and_true, Bool.true_and, Bool.and_false, Bool.false_and, Bool.or_true, Bool.true_or, Bool.or_false, Bool.false_or, decide_true, decide_false, not_true_eq_false, not_false_eq_true, Bool.false_eq_true, Bool.true_eq_false]; rfl) | (simp [av_hear, c6_1, c6_2, c6_3, c6_4, c6_5, c72]; done))).symm (by rfl)
    · refine G.aload_n hX 0 rfl dX0_hears_75 ?_
      refine G.get hX inc_X0_hears_0 0 rfl rfl 3 (by decide) (by decide +kernel) rfl dX0_hears_76 ?_
      refine G.iload_n hX 1 rfl dX0_hears_79 ?_
      refine G.iald hX (j := t) 2 rfl (by omega) (by omega) dX0_hears_80 ?_
      refine G.iconst hX (v := 5) (by decide) dX0_hears_81 ?_
      refine G.icmp_lt hX (tgt := 89) (by decide) dX0_hears_82 (fun c82 => ?_) (fun c82 => ?_)
      · refine G.iconst hX (v := 0) (by decide) dX0_hears_89 ?_
        exact G.zret hX hQ rfl dX0_hears_90 (bI_0.mpr (by first | rfl | (simp only [av_hear, c6_1, c6_2, c6_3, c6_4, c6_5, c72, c82, ↓reduceIte, Bool.not_true, Bool.not_false, Bool.and_true, Bool.true_and, Bool.and_false, Bool.false_and, Bool.or_true, Bool.true_or, Bool.or_false, Bool.false_or, decide_true, decide_false, not_true_eq_false, not_false_eq_true, Bool.false_eq_true, Bool.true_eq_false]; done) | (simp only [av_hear, c6_1, c6_2, c6_3, c6_4, c6_5, c72, c82, ↓reduceIte, Bool.not_true, Bool.not_false, Bool.and_true, Bool.true_and, Bool.and_false, Bool.false_and, Bool.or_true, Bool.true_or, Bool.or_false, Bool.false_or, decide_true, decide_false, not_true_eq_false, not_false_eq_true, Bool.false_eq_true, Bool.true_eq_false]; rfl) | (simp [av_hear, c6_1, c6_2, c6_3, c6_4, c6_5, c72, c82]; done))).symm (by rfl)
      · refine G.iconst hX (v := 1) (by decide) dX0_hears_85 ?_
        refine G.goto hX (tgt := 90) (by decide) dX0_hears_86 ?_
        exact G.zret hX hQ rfl dX0_hears_90 (bI_1.mpr (by first | rfl | (simp only [av_hear, c6_1, c6_2, c6_3, c6_4, c6_5, c72, c82, ↓reduceIte, Bool.not_true, Bool.not_false, Bool.and_true, Bool.true_and, Bool.and_false, Bool.false_and, Bool.or_true, Bool.true_or, Bool.or_false, Bool.false_or, decide_true, decide_false, not_true_eq_false, not_false_eq_true, Bool.false_eq_true, Bool.true_eq_false]; done) | (simp only [av_hear, c6_1, c6_2, c6_3, c6_4, c6_5, c72, c82, ↓reduceIte, Bool.not_true, Bool.not_false, Bool.and_true, Bool.true_and, Bool.and_false, Bool.false_and, Bool.or_true, Bool.true_or, Bool.or_false, Bool.false_or, decide_true, decide_false, not_true_eq_false, not_false_eq_true, Bool.false_eq_true, Bool.true_eq_false]; rfl) | (simp [av_hear, c6_1, c6_2, c6_3, c6_4, c6_5, c72, c82]; done))).symm (by rfl)
  refine G.tout hX (tgt := 93) dX0_hears_6 (by have t1 := ne_toInt c6_1; have t2 := ne_toInt c6_2; have t3 := ne_toInt c6_3; have t4 := ne_toInt c6_4; have t5 := ne_toInt c6_5; simp at t1 t2 t3 t4 t5; omega) (by decide) ?_
  refine G.iconst hX (v := 1) (by decide) dX0_hears_93 ?_
  exact G.zret hX hQ rfl dX0_hears_94 (bI_1.mpr (by first | rfl | (simp only [av_hear, c6_1, c6_2, c6_3, c6_4, c6_5, ↓reduceIte, Bool.not_true, Bool.not_false, Bool.and_true, Bool.true_and, Bool.and_false, Bool.false_and, Bool.or_true, Bool.true_or, Bool.or_false, Bool.false_or, decide_true, decide_false, not_true_eq_false, not_false_eq_true, Bool.false_eq_true, Bool.true_eq_false]; done) | (simp only [av_hear, c6_1, c6_2, c6_3, c6_4, c6_5, ↓reduceIte, Bool.not_true, Bool.not_false, Bool.and_true, Bool.true_and, Bool.and_false, Bool.false_and, Bool.or_true, Bool.true_or, Bool.or_false, Bool.false_or, decide_true, decide_false, not_true_eq_false, not_false_eq_true, Bool.false_eq_true, Bool.true_eq_false]; rfl) | (simp [av_hear, c6_1, c6_2, c6_3, c6_4, c6_5]; done))).symm (by rfl)
abbrev rmX0_takeFrom : Room := { frames := 1, cells := 0, slots := 0, locals := 22 }
theorem cp_X0_takeFrom : CP yX0_takeFrom RX0 wsX0_takeFrom 6 4 rmX0_takeFrom := ⟨⟨_, _, _, rfl⟩, rfl, rfl, by decide +kernel⟩
theorem inc_X0_takeFrom_0 : ∀ w ∈ u_ws RX0 TX0 6, w ∈ wsX0_takeFrom := by decide +kernel
set_option maxHeartbeats 4000000 in
set_option maxRecDepth 100000 in
theorem c_X0_takeFrom (l : Launch) (E : EV) (q : AV) (t : Nat) (w : Nat) (ms : Int32) (wt : Int32) (a : Nat → Nat) (h1 : t < 12) (h2 : w < 12) : CV l yX0_takeFrom wsX0_takeFrom rmX0_takeFrom E [.ref (a 0), .int (nI t), .int (nI w), .int ms, .int wt] [(a 0, avO a q.1 q.2.1), (a 1, arI E 12 q.2.2.1), (a 2, arI E 12 q.2.2.2.1), (a 3, arI E 12 q.2.2.2.2.1), (a 4, arI E 96 q.2.2.2.2.2)] [(a 0, avO a ((av_tf q t w ms wt).1) ((av_tf q t w ms wt).2.1)), (a 1, arI E 12 ((av_tf q t w ms wt).2.2.1)), (a 2, arI E 12 ((av_tf q t w ms wt).2.2.2.1)), (a 3, arI E 12 ((av_tf q t w ms wt).2.2.2.2.1)), (a 4, arI E 96 ((av_tf q t w ms wt).2.2.2.2.2))] := by
  refine CV.of (own := RX0) (cc := cX0_takeFrom) (nL := 6) (rt := none) (by decide) rfl rfl (Nat.le_of_ble_eq_true rfl) (fun X hX hQ => ?_)
  show G E X 6 0 [(0, .ref (a 0)), (1, .int (nI t)), (2, .int (nI w)), (3, .int ms), (4, .int wt)] [] [(a 0, avO a q.1 q.2.1), (a 1, arI E 12 q.2.2.1), (a 2, arI E 12 q.2.2.2.1), (a 3, arI E 12 q.2.2.2.2.1), (a 4, arI E 96 q.2.2.2.2.2)]
  refine G.iconst hX (v := 0) (by decide) dX0_takeFrom_0 ?_
  refine G.istore hX (lv' := [(5, .int 0), (0, .ref (a 0)), (1, .int (nI t)), (2, .int (nI w)), (3, .int ms), (4, .int wt)]) (by decide) rfl dX0_takeFrom_1 ?_
  have L3 : ∀ (n : Nat) (m : Nat), m ≤ 8 → 9 ≤ m + n → G E X 6 3 [(0, .ref (a 0)), (1, .int (nI t)), (2, .int (nI w)), (3, .int ms), (4, .int wt), (5, .int (nI m))] [] [(a 0, avO a ((it (av_tfS t w ms wt) m q).1) ((it (av_tfS t w ms wt) m q).2.1)), (a 1, arI E 12 ((it (av_tfS t w ms wt) m q).2.2.1)), (a 2, arI E 12 ((it (av_tfS t w ms wt) m q).2.2.2.1)), (a 3, arI E 12 ((it (av_tfS t w ms wt) m q).2.2.2.2.1)), (a 4, arI E 96 ((it (av_tfS t w ms wt) m q).2.2.2.2.2))] := by
    intro n
    induction n with
    | zero => intro m hl3_0 hl3_1; exact absurd hl3_1 (by omega)
    | succ n ih3 =>
      intro m hl3_0 hl3_1
      refine G.iload hX 5 rfl dX0_takeFrom_3 ?_
      refine G.bipush hX (v := 8) (by decide) dX0_takeFrom_5 ?_
      refine G.n_ge hX (a := m) (b := 8) (tgt := 50) (by omega) (by omega) (by decide) dX0_takeFrom_7 (fun c7 => ?_) (fun c7 => ?_)
      · exact G.vret hX hQ dX0_takeFrom_50 (by obtain rfl : m = 8 := (by omega); rfl)
      · have J44 : G E X 6 44 [(0, .ref (a 0)), (1, .int (nI t)), (2, .int (nI w)), (3, .int ms), (4, .int wt), (5, .int (nI m))] [] [(a 0, avO a ((it (av_tfS t w ms wt) (m + 1) q).1) ((it (av_tfS t w ms wt) (m + 1) q).2.1)), (a 1, arI E 12 ((it (av_tfS t w ms wt) (m + 1) q).2.2.1)), (a 2, arI E 12 ((it (av_tfS t w ms wt) (m + 1) q).2.2.2.1)), (a 3, arI E 12 ((it (av_tfS t w ms wt) (m + 1) q).2.2.2.2.1)), (a 4, arI E 96 ((it (av_tfS t w ms wt) (m + 1) q).2.2.2.2.2))] := by
          refine G.iinc hX (n := 1) (lv' := [(5, .int (nI (m + 1))), (0, .ref (a 0)), (1, .int (nI t)), (2, .int (nI w)), (3, .int ms), (4, .int wt)]) 5 rfl (inc_nI m 1 rfl) (by decide) rfl dX0_takeFrom_44 ?_
          refine G.goto hX (tgt := 3) (by decide) dX0_takeFrom_47 ?_
          refine G.lvp (lv' := [(0, .ref (a 0)), (1, .int (nI t)), (2, .int (nI w)), (3, .int ms), (4, .int wt), (5, .int (nI (m + 1)))]) [1, 2, 3, 4, 5, 0] rfl ?_
          refine G.lve (lv' := [(0, .ref (a 0)), (1, .int (nI t)), (2, .int (nI w)), (3, .int ms), (4, .int wt), (5, .int (nI ((m + 1))))]) (by rfl) ?_
          exact ih3 (m + 1) (by omega) (by omega)
        refine G.iload_n hX 3 rfl dX0_takeFrom_10 ?_
        refine G.iload hX 5 rfl dX0_takeFrom_11 ?_
        refine G.ishr hX dX0_takeFrom_13 ?_
        refine G.iconst hX (v := 1) (by decide) dX0_takeFrom_14 ?_
        refine G.iand hX dX0_takeFrom_15 ?_
        refine G.iconst hX (v := 1) (by decide) dX0_takeFrom_16 ?_
        refine G.icmp_ne hX (tgt := 44) (by decide) dX0_takeFrom_17 (fun c17 => ?_) (fun c17 => ?_)
        · refine G.we (ws' := [(a 0, avO a ((it (av_tfS t w ms wt) (m + 1) q).1) ((it (av_tfS t w ms wt) (m + 1) q).2.1)), (a 1, arI E 12 ((it (av_tfS t w ms wt) (m + 1) q).2.2.1)), (a 2, arI E 12 ((it (av_tfS t w ms wt) (m + 1) q).2.2.2.1)), (a 3, arI E 12 ((it (av_tfS t w ms wt) (m + 1) q).2.2.2.2.1)), (a 4, arI E 96 ((it (av_tfS t w ms wt) (m + 1) q).2.2.2.2.2))]) (by simp only [it_s, av_tfS, av_tfB, c7, c17, decide_true, decide_false, Bool.true_and, Bool.false_and, Bool.not_true, Bool.not_false, ↓reduceIte, Bool.false_eq_true]) ?_
          exact J44
        · refine G.aload_n hX 0 rfl dX0_takeFrom_20 ?_
          refine G.get hX inc_X0_takeFrom_0 0 rfl rfl 0 (by decide) (by decide +kernel) rfl dX0_takeFrom_21 ?_
          refine G.aload_n hX 0 rfl dX0_takeFrom_24 ?_
          refine G.iload_n hX 2 rfl dX0_takeFrom_25 ?_
          refine G.iload hX 5 rfl dX0_takeFrom_26 ?_
          refine G.vi hX (As := [.int (nI w), .int (nI m)]) (st := [.int ((it (av_tfS t w ms wt) m q).1)]) (wr := []) (wf := [(a 0, avO a ((it (av_tfS t w ms wt) m q).1) ((it (av_tfS t w ms wt) m q).2.1)), (a 1, arI E 12 ((it (av_tfS t w ms wt) m q).2.2.1)), (a 2, arI E 12 ((it (av_tfS t w ms wt) m q).2.2.2.1)), (a 3, arI E 12 ((it (av_tfS t w ms wt) m q).2.2.2.2.1)), (a 4, arI E 96 ((it (av_tfS t w ms wt) m q).2.2.2.2.2))]) (q0 := 0) (ci := 0) rfl rfl (c_X0_learntWhen _ E (q := it (av_tfS t w ms wt) m q) (t := w) (m := m) (a := a) (h1 := by omega) (h2 := by omega)) gX0_takeFrom_X0_learntWhen cp_X0_learntWhen (by decide) [0, 1, 2, 3, 4] [] [0, 1, 2, 3, 4] ⟨rfl, rfl, by decide, rfl⟩ rfl rfl (Nat.le_of_ble_eq_true rfl) dX0_takeFrom_28 ?_
          refine G.isub hX dX0_takeFrom_31 ?_
          refine G.iload hX 4 rfl dX0_takeFrom_32 ?_
          refine G.icmp_lt hX (tgt := 44) (by decide) dX0_takeFrom_34 (fun c34 => ?_) (fun c34 => ?_)
          · refine G.we (ws' := [(a 0, avO a ((it (av_tfS t w ms wt) (m + 1) q).1) ((it (av_tfS t w ms wt) (m + 1) q).2.1)), (a 1, arI E 12 ((it (av_tfS t w ms wt) (m + 1) q).2.2.1)), (a 2, arI E 12 ((it (av_tfS t w ms wt) (m + 1) q).2.2.2.1)), (a 3, arI E 12 ((it (av_tfS t w ms wt) (m + 1) q).2.2.2.2.1)), (a 4, arI E 96 ((it (av_tfS t w ms wt) (m + 1) q).2.2.2.2.2))]) (by simp only [it_s, av_tfS, av_tfB, c7, c17, c34, decide_true, decide_false, Bool.true_and, Bool.false_and, Bool.not_true, Bool.not_false, ↓reduceIte, Bool.false_eq_true]) ?_
            exact J44
          · refine G.aload_n hX 0 rfl dX0_takeFrom_37 ?_
            refine G.iload_n hX 1 rfl dX0_takeFrom_38 ?_
            refine G.iload hX 5 rfl dX0_takeFrom_39 ?_
            refine G.vv hX (As := [.int (nI t), .int (nI m)]) (st := []) (wr := []) (wf := [(a 0, avO a ((av_learn (it (av_tfS t w ms wt) m q) t m).1) ((av_learn (it (av_tfS t w ms wt) m q) t m).2.1)), (a 1, arI E 12 ((av_learn (it (av_tfS t w ms wt) m q) t m).2.2.1)), (a 2, arI E 12 ((av_learn (it (av_tfS t w ms wt) m q) t m).2.2.2.1)), (a 3, arI E 12 ((av_learn (it (av_tfS t w ms wt) m q) t m).2.2.2.2.1)), (a 4, arI E 96 ((av_learn (it (av_tfS t w ms wt) m q) t m).2.2.2.2.2))]) (q0 := 0) (ci := 0) rfl rfl (c_X0_learn _ E (q := it (av_tfS t w ms wt) m q) (t := t) (m := m) (a := a) (h1 := by omega) (h2 := by omega)) gX0_takeFrom_X0_learn cp_X0_learn (by decide) [0, 1, 2, 3, 4] [] [0, 1, 2, 3, 4] ⟨rfl, rfl, by decide, rfl⟩ rfl rfl (Nat.le_of_ble_eq_true rfl) dX0_takeFrom_41 ?_
            refine G.we (ws' := [(a 0, avO a ((it (av_tfS t w ms wt) (m + 1) q).1) ((it (av_tfS t w ms wt) (m + 1) q).2.1)), (a 1, arI E 12 ((it (av_tfS t w ms wt) (m + 1) q).2.2.1)), (a 2, arI E 12 ((it (av_tfS t w ms wt) (m + 1) q).2.2.2.1)), (a 3, arI E 12 ((it (av_tfS t w ms wt) (m + 1) q).2.2.2.2.1)), (a 4, arI E 96 ((it (av_tfS t w ms wt) (m + 1) q).2.2.2.2.2))]) (by simp only [it_s, av_tfS, av_tfB, c7, c17, c34, decide_true, decide_false, Bool.true_and, Bool.false_and, Bool.not_true, Bool.not_false, ↓reduceIte, Bool.false_eq_true]) ?_
            exact J44
  refine G.lvp (lv' := [(0, .ref (a 0)), (1, .int (nI t)), (2, .int (nI w)), (3, .int ms), (4, .int wt), (5, .int 0)]) [1, 2, 3, 4, 5, 0] rfl ?_
  refine G.lve (lv' := [(0, .ref (a 0)), (1, .int (nI t)), (2, .int (nI w)), (3, .int ms), (4, .int wt), (5, .int (nI 0))]) (by rfl) ?_
  refine G.we (ws' := [(a 0, avO a ((it (av_tfS t w ms wt) 0 q).1) ((it (av_tfS t w ms wt) 0 q).2.1)), (a 1, arI E 12 ((it (av_tfS t w ms wt) 0 q).2.2.1)), (a 2, arI E 12 ((it (av_tfS t w ms wt) 0 q).2.2.2.1)), (a 3, arI E 12 ((it (av_tfS t w ms wt) 0 q).2.2.2.2.1)), (a 4, arI E 96 ((it (av_tfS t w ms wt) 0 q).2.2.2.2.2))]) (by rfl) ?_
  exact L3 9 0 (by omega) (by omega)
abbrev rmX0_listen : Room := { frames := 2, cells := 0, slots := 0, locals := 47 }
theorem cp_X0_listen : CP yX0_listen RX0 wsX0_listen 8 2 rmX0_listen := ⟨⟨_, _, _, rfl⟩, rfl, rfl, by decide +kernel⟩
theorem inc_X0_listen_0 : ∀ w ∈ u_ws RX0 TX0 6, w ∈ wsX0_listen := by decide +kernel
set_option maxHeartbeats 4000000 in
set_option maxRecDepth 100000 in
theorem c_X0_listenlo (l : Launch) (E : EV) (q : AV) (t : Nat) (mk : Int32) (a : Nat → Nat) (h1 : t < 12) (h2 : t < 2) : CV l yX0_listen wsX0_listen rmX0_listen E [.ref (a 0), .int (nI t), .int mk] [(a 0, avO a q.1 q.2.1), (a 1, arI E 12 q.2.2.1), (a 2, arI E 12 q.2.2.2.1), (a 3, arI E 12 q.2.2.2.2.1), (a 4, arI E 96 q.2.2.2.2.2)] [(a 0, avO a ((av_ls q t mk).1) ((av_ls q t mk).2.1)), (a 1, arI E 12 ((av_ls q t mk).2.2.1)), (a 2, arI E 12 ((av_ls q t mk).2.2.2.1)), (a 3, arI E 12 ((av_ls q t mk).2.2.2.2.1)), (a 4, arI E 96 ((av_ls q t mk).2.2.2.2.2))] := by
  refine CV.of (own := RX0) (cc := cX0_listen) (nL := 8) (rt := none) (by decide) rfl rfl (Nat.le_of_ble_eq_true rfl) (fun X hX hQ => ?_)
  show G E X 8 0 [(0, .ref (a 0)), (1, .int (nI t)), (2, .int mk)] [] [(a 0, avO a q.1 q.2.1), (a 1, arI E 12 q.2.2.1), (a 2, arI E 12 q.2.2.2.1), (a 3, arI E 12 q.2.2.2.2.1), (a 4, arI E 96 q.2.2.2.2.2)]
  refine G.iload_n hX 1 rfl dX0_listen_0 ?_
  refine G.iconst hX (v := 2) (by decide) dX0_listen_1 ?_
  refine G.isub hX dX0_listen_2 ?_
  refine G.istore_n hX (lv' := [(3, .int ((nI t) - 2)), (0, .ref (a 0)), (1, .int (nI t)), (2, .int mk)]) rfl (by decide) rfl dX0_listen_3 ?_
  refine G.iload_n hX 2 rfl dX0_listen_4 ?_
  refine G.iconst hX (v := 1) (by decide) dX0_listen_5 ?_
  refine G.ixor hX dX0_listen_6 ?_
  refine G.ie (y := nI (t ^^^ 1)) (by exact nI_xor t 1) ?_
  refine G.istore hX (lv' := [(4, .int (nI (t ^^^ 1))), (3, .int ((nI t) - 2)), (0, .ref (a 0)), (1, .int (nI t)), (2, .int mk)]) (by decide) rfl dX0_listen_7 ?_
  have hx1 := xor1_lt h1
  refine G.iload_n hX 4 rfl dX0_listen_9 ?_
  refine G.aload_n hX 2 rfl dX0_listen_10 ?_
  refine G.get hX inc_X0_listen_0 0 rfl rfl 4 (by decide) (by decide +kernel) rfl dX0_listen_11 ?_
  refine G.iload_n hX 3 rfl dX0_listen_14 ?_
  refine G.iald hX (j := t) 3 rfl (by omega) (by omega) dX0_listen_15 ?_
  refine G.iconst hX (v := -1) (by decide) dX0_listen_16 ?_
  refine G.ixor hX dX0_listen_17 ?_
  refine G.iand hX dX0_listen_18 ?_
  refine G.ie (y := av_un q t mk) (by rfl) ?_
  refine G.istore hX (lv' := [(5, .int (av_un q t mk)), (4, .int (nI (t ^^^ 1))), (3, .int ((nI t) - 2)), (0, .ref (a 0)), (1, .int (nI t)), (2, .int mk)]) (by decide) rfl dX0_listen_19 ?_
  have J38 : G E X 8 38 [(0, .ref (a 0)), (1, .int (nI t)), (2, .int mk), (3, .int (nI t - 2)), (4, .int (nI (t ^^^ 1))), (5, .int (av_un q t mk))] [.int (av_lt q t mk)] [(a 0, avO a q.1 q.2.1), (a 1, arI E 12 q.2.2.1), (a 2, arI E 12 q.2.2.2.1), (a 3, arI E 12 q.2.2.2.2.1), (a 4, arI E 96 q.2.2.2.2.2)] := by
    refine G.istore hX (lv' := [(6, .int (av_lt q t mk)), (0, .ref (a 0)), (1, .int (nI t)), (2, .int mk), (3, .int (nI t - 2)), (4, .int (nI (t ^^^ 1))), (5, .int (av_un q t mk))]) (by decide) rfl dX0_listen_38 ?_
    have J64 : G E X 8 64 [(0, .ref (a 0)), (1, .int (nI t)), (2, .int mk), (3, .int (nI t - 2)), (4, .int (nI (t ^^^ 1))), (6, .int (av_lt q t mk))] [.int (av_nd q t mk)] [(a 0, avO a q.1 q.2.1), (a 1, arI E 12 q.2.2.1), (a 2, arI E 12 q.2.2.2.1), (a 3, arI E 12 q.2.2.2.2.1), (a 4, arI E 96 q.2.2.2.2.2)] := by
      refine G.istore hX (lv' := [(7, .int (av_nd q t mk)), (0, .ref (a 0)), (1, .int (nI t)), (2, .int mk), (3, .int (nI t - 2)), (4, .int (nI (t ^^^ 1))), (6, .int (av_lt q t mk))]) (by decide) rfl dX0_listen_64 ?_
      have J93 : G E X 8 93 [(0, .ref (a 0)), (1, .int (nI t)), (2, .int mk), (4, .int (nI (t ^^^ 1))), (7, .int (av_nd q t mk))] [] [(a 0, avO a ((av_ls1 q t mk).1) ((av_ls1 q t mk).2.1)), (a 1, arI E 12 ((av_ls1 q t mk).2.2.1)), (a 2, arI E 12 ((av_ls1 q t mk).2.2.2.1)), (a 3, arI E 12 ((av_ls1 q t mk).2.2.2.2.1)), (a 4, arI E 96 ((av_ls1 q t mk).2.2.2.2.2))] := by
        refine G.iload hX 4 rfl dX0_listen_93 ?_
        refine G.if_eq hX (tgt := 122) (by decide) dX0_listen_95 (fun c95 => ?_) (fun c95 => ?_)
        · exact G.vret hX hQ dX0_listen_122 (by simp only [av_ls, c95, decide_true, decide_false, Bool.true_and, Bool.false_and, Bool.not_true, Bool.not_false, ↓reduceIte, Bool.false_eq_true])
        · refine G.aload_n hX 0 rfl dX0_listen_98 ?_
          refine G.iload_n hX 1 rfl dX0_listen_99 ?_
          refine G.iconst hX (v := 1) (by decide) dX0_listen_100 ?_
          refine G.vi hX (As := [.int (nI t), .int 1]) (st := []) (wr := []) (wf := [(a 0, avO a ((av_ls1 q t mk).1) ((av_ls1 q t mk).2.1)), (a 1, arI E 12 ((av_ls1 q t mk).2.2.1)), (a 2, arI E 12 ((av_ls1 q t mk).2.2.2.1)), (a 3, arI E 12 ((av_ls1 q t mk).2.2.2.2.1)), (a 4, arI E 96 ((av_ls1 q t mk).2.2.2.2.2))]) (q0 := 0) (ci := 0) rfl rfl (c_X0_hears _ E (q := av_ls1 q t mk) (t := t) (b := true) (a := a) (h1 := by omega)) gX0_listen_X0_hears cp_X0_hears (by decide) [0, 1, 2, 3, 4] [] [0, 1, 2, 3, 4] ⟨rfl, rfl, by decide, rfl⟩ rfl rfl (Nat.le_of_ble_eq_true rfl) dX0_listen_101 ?_
          refine G.b_eq hX (tgt := 122) (by decide) dX0_listen_104 (fun c104 => ?_) (fun c104 => ?_)
          · exact G.vret hX hQ dX0_listen_122 (by simp only [av_ls, c95, c104, decide_true, decide_false, Bool.true_and, Bool.false_and, Bool.not_true, Bool.not_false, ↓reduceIte, Bool.false_eq_true])
          · refine G.aload_n hX 0 rfl dX0_listen_107 ?_
            refine G.iload_n hX 1 rfl dX0_listen_108 ?_
            refine G.iload hX 3 rfl dX0_listen_109 ?_
            refine G.iload hX 4 rfl dX0_listen_111 ?_
            refine G.aload_n hX 0 rfl dX0_listen_113 ?_
            refine G.iload hX 3 rfl dX0_listen_114 ?_
            refine G.vi hX (As := [.int (nI (t ^^^ 1))]) (st := [.int (av_nd q t mk), .int (nI (t ^^^ 1)), .int (nI t), .ref (a 0)]) (wr := []) (wf := [(a 0, avO a ((av_ls1 q t mk).1) ((av_ls1 q t mk).2.1)), (a 1, arI E 12 ((av_ls1 q t mk).2.2.1)), (a 2, arI E 12 ((av_ls1 q t mk).2.2.2.1)), (a 3, arI E 12 ((av_ls1 q t mk).2.2.2.2.1)), (a 4, arI E 96 ((av_ls1 q t mk).2.2.2.2.2))]) (q0 := 0) (ci := 0) rfl rfl (c_X0_nodsOf _ E (q := av_ls1 q t mk) (t := t ^^^ 1) (a := a) (h1 := by omega)) gX0_listen_X0_nodsOf cp_X0_nodsOf (by decide) [0, 1, 2, 3, 4] [] [0, 1, 2, 3, 4] ⟨rfl, rfl, by decide, rfl⟩ rfl rfl (Nat.le_of_ble_eq_true rfl) dX0_listen_116 ?_
            refine G.vv hX (As := [.int (nI t), .int (nI (t ^^^ 1)), .int (av_nd q t mk), .int (av_nods (av_ls1 q t mk) (t ^^^ 1))]) (st := []) (wr := []) (wf := [(a 0, avO a ((av_tf (av_ls1 q t mk) t (t ^^^ 1) (av_nd q t mk) (av_nods (av_ls1 q t mk) (t ^^^ 1))).1) ((av_tf (av_ls1 q t mk) t (t ^^^ 1) (av_nd q t mk) (av_nods (av_ls1 q t mk) (t ^^^ 1))).2.1)), (a 1, arI E 12 ((av_tf (av_ls1 q t mk) t (t ^^^ 1) (av_nd q t mk) (av_nods (av_ls1 q t mk) (t ^^^ 1))).2.2.1)), (a 2, arI E 12 ((av_tf (av_ls1 q t mk) t (t ^^^ 1) (av_nd q t mk) (av_nods (av_ls1 q t mk) (t ^^^ 1))).2.2.2.1)), (a 3, arI E 12 ((av_tf (av_ls1 q t mk) t (t ^^^ 1) (av_nd q t mk) (av_nods (av_ls1 q t mk) (t ^^^ 1))).2.2.2.2.1)), (a 4, arI E 96 ((av_tf (av_ls1 q t mk) t (t ^^^ 1) (av_nd q t mk) (av_nods (av_ls1 q t mk) (t ^^^ 1))).2.2.2.2.2))]) (q0 := 0) (ci := 0) rfl rfl (c_X0_takeFrom _ E (q := av_ls1 q t mk) (t := t) (w := t ^^^ 1) (ms := av_nd q t mk) (wt := av_nods (av_ls1 q t mk) (t ^^^ 1)) (a := a) (h1 := by omega) (h2 := by omega)) gX0_listen_X0_takeFrom cp_X0_takeFrom (by decide) [0, 1, 2, 3, 4] [] [0, 1, 2, 3, 4] ⟨rfl, rfl, by decide, rfl⟩ rfl rfl (Nat.le_of_ble_eq_true rfl) dX0_listen_119 ?_
            exact G.vret hX hQ dX0_listen_122 (by simp only [av_ls, c95, c104, decide_true, decide_false, Bool.true_and, Bool.false_and, Bool.not_true, Bool.not_false, ↓reduceIte, Bool.false_eq_true])
      refine G.iload hX 6 rfl dX0_listen_66 ?_
      refine G.if_eq hX (tgt := 93) (by decide) dX0_listen_68 (fun c68 => ?_) (fun c68 => ?_)
      · refine G.lvp (lv' := [(0, .ref (a 0)), (1, .int (nI t)), (2, .int mk), (4, .int (nI (t ^^^ 1))), (7, .int (av_nd q t mk))]) [1, 2, 3, 5, 0] rfl ?_
        refine G.we (ws' := [(a 0, avO a ((av_ls1 q t mk).1) ((av_ls1 q t mk).2.1)), (a 1, arI E 12 ((av_ls1 q t mk).2.2.1)), (a 2, arI E 12 ((av_ls1 q t mk).2.2.2.1)), (a 3, arI E 12 ((av_ls1 q t mk).2.2.2.2.1)), (a 4, arI E 96 ((av_ls1 q t mk).2.2.2.2.2))]) (by simp only [av_ls1, c68, decide_true, decide_false, Bool.true_and, Bool.false_and, Bool.not_true, Bool.not_false, ↓reduceIte, Bool.false_eq_true]) ?_
        exact J93
      · exact absurd (by rw [av_lt, if_pos h2]) c68
    refine G.aload_n hX 1 rfl dX0_listen_40 ?_
    refine G.iload_n hX 2 rfl dX0_listen_41 ?_
    refine G.iconst hX (v := 2) (by decide) dX0_listen_42 ?_
    refine G.idiv hX (by decide) dX0_listen_43 ?_
    refine G.ie (y := nI (t / 2)) (by exact pk_div (a := t) (d := 2) (by omega) (by omega) (by omega)) ?_
    refine G.vi hX (As := [.int (nI (t / 2))]) (st := []) (wr := []) (wf := [(a 0, avO a q.1 q.2.1), (a 1, arI E 12 q.2.2.1), (a 2, arI E 12 q.2.2.2.1), (a 3, arI E 12 q.2.2.2.2.1), (a 4, arI E 96 q.2.2.2.2.2)]) (q0 := 0) (ci := 0) rfl rfl (c_X0_isIntroduced _ E (q := q) (pl := t / 2) (a := a) (h1 := by omega)) gX0_listen_X0_isIntroduced cp_X0_isIntroduced (by decide) [0, 1, 2, 3, 4] [] [0, 1, 2, 3, 4] ⟨rfl, rfl, by decide, rfl⟩ rfl rfl (Nat.le_of_ble_eq_true rfl) dX0_listen_44 ?_
    refine G.b_eq hX (tgt := 63) (by decide) dX0_listen_47 (fun c47 => ?_) (fun c47 => ?_)
    · refine G.iconst hX (v := 0) (by decide) dX0_listen_63 ?_
      refine G.lvp (lv' := [(0, .ref (a 0)), (1, .int (nI t)), (2, .int mk), (3, .int (nI t - 2)), (4, .int (nI (t ^^^ 1))), (6, .int (av_lt q t mk))]) [1, 2, 3, 4, 5, 0] rfl ?_
      refine G.ie (y := av_nd q t mk) (by first | rfl | (simp only [av_nd, c47, ↓reduceIte, Bool.not_true, Bool.not_false, Bool.and_true, Bool.true_and, Bool.and_false, Bool.false_and, Bool.or_true, Bool.true_or, Bool.or_false, Bool.false_or, decide_true, decide_false, not_true_eq_false, not_false_eq_true, Bool.false_eq_true, Bool.true_eq_false]; done) | (simp only [av_nd, c47, ↓reduceIte, Bool.not_true, Bool.not_false, Bool.and_true, Bool.true_and, Bool.and_false, Bool.false_and, Bool.or_true, Bool.true_or, Bool.or_false, Bool.false_or, decide_true, decide_false, not_true_eq_false, not_false_eq_true, Bool.false_eq_true, Bool.true_eq_false]; rfl) | (simp [av_nd, c47]; done)) ?_
      exact J64
    · refine G.iload hX 6 rfl dX0_listen_50 ?_
      refine G.aload_n hX 1 rfl dX0_listen_52 ?_
      refine G.get hX inc_X0_listen_0 0 rfl rfl 4 (by decide) (by decide +kernel) rfl dX0_listen_53 ?_
      refine G.iload hX 5 rfl dX0_listen_56 ?_
      refine G.iald hX (j := t ^^^ 1) 3 rfl (by omega) (by omega) dX0_listen_58 ?_
      refine G.iand hX dX0_listen_59 ?_
      refine G.goto hX (tgt := 64) (by decide) dX0_listen_60 ?_
      refine G.lvp (lv' := [(0, .ref (a 0)), (1, .int (nI t)), (2, .int mk), (3, .int (nI t - 2)), (4, .int (nI (t ^^^ 1))), (6, .int (av_lt q t mk))]) [1, 2, 3, 4, 5, 0] rfl ?_
      refine G.ie (y := av_nd q t mk) (by first | rfl | (simp only [av_nd, c47, ↓reduceIte, Bool.not_true, Bool.not_false, Bool.and_true, Bool.true_and, Bool.and_false, Bool.false_and, Bool.or_true, Bool.true_or, Bool.or_false, Bool.false_or, decide_true, decide_false, not_true_eq_false, not_false_eq_true, Bool.false_eq_true, Bool.true_eq_false]; done) | (simp only [av_nd, c47, ↓reduceIte, Bool.not_true, Bool.not_false, Bool.and_true, Bool.true_and, Bool.and_false, Bool.false_and, Bool.or_true, Bool.true_or, Bool.or_false, Bool.false_or, decide_true, decide_false, not_true_eq_false, not_false_eq_true, Bool.false_eq_true, Bool.true_eq_false]; rfl) | (simp [av_nd, c47]; done)) ?_
      exact J64
  refine G.iload_n hX 2 rfl dX0_listen_21 ?_
  refine G.if_lt hX (tgt := 37) (by decide) dX0_listen_22 (fun c22 => ?_) (fun c22 => ?_)
  · refine G.iconst hX (v := 0) (by decide) dX0_listen_37 ?_
    refine G.lvp (lv' := [(0, .ref (a 0)), (1, .int (nI t)), (2, .int mk), (3, .int ((nI t) - 2)), (4, .int (nI (t ^^^ 1))), (5, .int (av_un q t mk))]) [3, 4, 5, 2, 1, 0] rfl ?_
    refine G.lve (lv' := [(0, .ref (a 0)), (1, .int (nI t)), (2, .int mk), (3, .int (nI t - 2)), (4, .int (nI (t ^^^ 1))), (5, .int (av_un q t mk))]) (by simp only [av_lt, h2, ↓reduceIte]) ?_
    refine G.ie (y := av_lt q t mk) (by simp only [av_lt, h2, ↓reduceIte]) ?_
    exact J38
  · exact absurd (sub2 t h2) c22
set_option maxHeartbeats 4000000 in
set_option maxRecDepth 100000 in
theorem c_X0_listenhi (l : Launch) (E : EV) (q : AV) (t : Nat) (mk : Int32) (a : Nat → Nat) (h1 : t < 12) (h2 : 2 ≤ t) : CV l yX0_listen wsX0_listen rmX0_listen E [.ref (a 0), .int (nI t), .int mk] [(a 0, avO a q.1 q.2.1), (a 1, arI E 12 q.2.2.1), (a 2, arI E 12 q.2.2.2.1), (a 3, arI E 12 q.2.2.2.2.1), (a 4, arI E 96 q.2.2.2.2.2)] [(a 0, avO a ((av_ls q t mk).1) ((av_ls q t mk).2.1)), (a 1, arI E 12 ((av_ls q t mk).2.2.1)), (a 2, arI E 12 ((av_ls q t mk).2.2.2.1)), (a 3, arI E 12 ((av_ls q t mk).2.2.2.2.1)), (a 4, arI E 96 ((av_ls q t mk).2.2.2.2.2))] := by
  refine CV.of (own := RX0) (cc := cX0_listen) (nL := 8) (rt := none) (by decide) rfl rfl (Nat.le_of_ble_eq_true rfl) (fun X hX hQ => ?_)
  show G E X 8 0 [(0, .ref (a 0)), (1, .int (nI t)), (2, .int mk)] [] [(a 0, avO a q.1 q.2.1), (a 1, arI E 12 q.2.2.1), (a 2, arI E 12 q.2.2.2.1), (a 3, arI E 12 q.2.2.2.2.1), (a 4, arI E 96 q.2.2.2.2.2)]
  refine G.iload_n hX 1 rfl dX0_listen_0 ?_
  refine G.iconst hX (v := 2) (by decide) dX0_listen_1 ?_
  refine G.isub hX dX0_listen_2 ?_
  refine G.ie (pk_sub (a := t) (b := 2) (by omega)) ?_
  refine G.istore_n hX (lv' := [(3, .int (nI (t - 2))), (0, .ref (a 0)), (1, .int (nI t)), (2, .int mk)]) rfl (by decide) rfl dX0_listen_3 ?_
  refine G.iload_n hX 2 rfl dX0_listen_4 ?_
  refine G.iconst hX (v := 1) (by decide) dX0_listen_5 ?_
  refine G.ixor hX dX0_listen_6 ?_
  refine G.ie (y := nI (t ^^^ 1)) (by exact nI_xor t 1) ?_
  refine G.istore hX (lv' := [(4, .int (nI (t ^^^ 1))), (3, .int (nI (t - 2))), (0, .ref (a 0)), (1, .int (nI t)), (2, .int mk)]) (by decide) rfl dX0_listen_7 ?_
  have hx1 := xor1_lt h1
  refine G.iload_n hX 4 rfl dX0_listen_9 ?_
  refine G.aload_n hX 2 rfl dX0_listen_10 ?_
  refine G.get hX inc_X0_listen_0 0 rfl rfl 4 (by decide) (by decide +kernel) rfl dX0_listen_11 ?_
  refine G.iload_n hX 3 rfl dX0_listen_14 ?_
  refine G.iald hX (j := t) 3 rfl (by omega) (by omega) dX0_listen_15 ?_
  refine G.iconst hX (v := -1) (by decide) dX0_listen_16 ?_
  refine G.ixor hX dX0_listen_17 ?_
  refine G.iand hX dX0_listen_18 ?_
  refine G.ie (y := av_un q t mk) (by rfl) ?_
  refine G.istore hX (lv' := [(5, .int (av_un q t mk)), (4, .int (nI (t ^^^ 1))), (3, .int (nI (t - 2))), (0, .ref (a 0)), (1, .int (nI t)), (2, .int mk)]) (by decide) rfl dX0_listen_19 ?_
  have J38 : G E X 8 38 [(0, .ref (a 0)), (1, .int (nI t)), (2, .int mk), (3, .int (nI (t - 2))), (4, .int (nI (t ^^^ 1))), (5, .int (av_un q t mk))] [.int (av_lt q t mk)] [(a 0, avO a q.1 q.2.1), (a 1, arI E 12 q.2.2.1), (a 2, arI E 12 q.2.2.2.1), (a 3, arI E 12 q.2.2.2.2.1), (a 4, arI E 96 q.2.2.2.2.2)] := by
    refine G.istore hX (lv' := [(6, .int (av_lt q t mk)), (0, .ref (a 0)), (1, .int (nI t)), (2, .int mk), (3, .int (nI (t - 2))), (4, .int (nI (t ^^^ 1))), (5, .int (av_un q t mk))]) (by decide) rfl dX0_listen_38 ?_
    have J64 : G E X 8 64 [(0, .ref (a 0)), (1, .int (nI t)), (2, .int mk), (3, .int (nI (t - 2))), (4, .int (nI (t ^^^ 1))), (6, .int (av_lt q t mk))] [.int (av_nd q t mk)] [(a 0, avO a q.1 q.2.1), (a 1, arI E 12 q.2.2.1), (a 2, arI E 12 q.2.2.2.1), (a 3, arI E 12 q.2.2.2.2.1), (a 4, arI E 96 q.2.2.2.2.2)] := by
      refine G.istore hX (lv' := [(7, .int (av_nd q t mk)), (0, .ref (a 0)), (1, .int (nI t)), (2, .int mk), (3, .int (nI (t - 2))), (4, .int (nI (t ^^^ 1))), (6, .int (av_lt q t mk))]) (by decide) rfl dX0_listen_64 ?_
      have J93 : G E X 8 93 [(0, .ref (a 0)), (1, .int (nI t)), (2, .int mk), (4, .int (nI (t ^^^ 1))), (7, .int (av_nd q t mk))] [] [(a 0, avO a ((av_ls1 q t mk).1) ((av_ls1 q t mk).2.1)), (a 1, arI E 12 ((av_ls1 q t mk).2.2.1)), (a 2, arI E 12 ((av_ls1 q t mk).2.2.2.1)), (a 3, arI E 12 ((av_ls1 q t mk).2.2.2.2.1)), (a 4, arI E 96 ((av_ls1 q t mk).2.2.2.2.2))] := by
        refine G.iload hX 4 rfl dX0_listen_93 ?_
        refine G.if_eq hX (tgt := 122) (by decide) dX0_listen_95 (fun c95 => ?_) (fun c95 => ?_)
        · exact G.vret hX hQ dX0_listen_122 (by simp only [av_ls, c95, decide_true, decide_false, Bool.true_and, Bool.false_and, Bool.not_true, Bool.not_false, ↓reduceIte, Bool.false_eq_true])
        · refine G.aload_n hX 0 rfl dX0_listen_98 ?_
          refine G.iload_n hX 1 rfl dX0_listen_99 ?_
          refine G.iconst hX (v := 1) (by decide) dX0_listen_100 ?_
          refine G.vi hX (As := [.int (nI t), .int 1]) (st := []) (wr := []) (wf := [(a 0, avO a ((av_ls1 q t mk).1) ((av_ls1 q t mk).2.1)), (a 1, arI E 12 ((av_ls1 q t mk).2.2.1)), (a 2, arI E 12 ((av_ls1 q t mk).2.2.2.1)), (a 3, arI E 12 ((av_ls1 q t mk).2.2.2.2.1)), (a 4, arI E 96 ((av_ls1 q t mk).2.2.2.2.2))]) (q0 := 0) (ci := 0) rfl rfl (c_X0_hears _ E (q := av_ls1 q t mk) (t := t) (b := true) (a := a) (h1 := by omega)) gX0_listen_X0_hears cp_X0_hears (by decide) [0, 1, 2, 3, 4] [] [0, 1, 2, 3, 4] ⟨rfl, rfl, by decide, rfl⟩ rfl rfl (Nat.le_of_ble_eq_true rfl) dX0_listen_101 ?_
          refine G.b_eq hX (tgt := 122) (by decide) dX0_listen_104 (fun c104 => ?_) (fun c104 => ?_)
          · exact G.vret hX hQ dX0_listen_122 (by simp only [av_ls, c95, c104, decide_true, decide_false, Bool.true_and, Bool.false_and, Bool.not_true, Bool.not_false, ↓reduceIte, Bool.false_eq_true])
          · refine G.aload_n hX 0 rfl dX0_listen_107 ?_
            refine G.iload_n hX 1 rfl dX0_listen_108 ?_
            refine G.iload hX 3 rfl dX0_listen_109 ?_
            refine G.iload hX 4 rfl dX0_listen_111 ?_
            refine G.aload_n hX 0 rfl dX0_listen_113 ?_
            refine G.iload hX 3 rfl dX0_listen_114 ?_
            refine G.vi hX (As := [.int (nI (t ^^^ 1))]) (st := [.int (av_nd q t mk), .int (nI (t ^^^ 1)), .int (nI t), .ref (a 0)]) (wr := []) (wf := [(a 0, avO a ((av_ls1 q t mk).1) ((av_ls1 q t mk).2.1)), (a 1, arI E 12 ((av_ls1 q t mk).2.2.1)), (a 2, arI E 12 ((av_ls1 q t mk).2.2.2.1)), (a 3, arI E 12 ((av_ls1 q t mk).2.2.2.2.1)), (a 4, arI E 96 ((av_ls1 q t mk).2.2.2.2.2))]) (q0 := 0) (ci := 0) rfl rfl (c_X0_nodsOf _ E (q := av_ls1 q t mk) (t := t ^^^ 1) (a := a) (h1 := by omega)) gX0_listen_X0_nodsOf cp_X0_nodsOf (by decide) [0, 1, 2, 3, 4] [] [0, 1, 2, 3, 4] ⟨rfl, rfl, by decide, rfl⟩ rfl rfl (Nat.le_of_ble_eq_true rfl) dX0_listen_116 ?_
            refine G.vv hX (As := [.int (nI t), .int (nI (t ^^^ 1)), .int (av_nd q t mk), .int (av_nods (av_ls1 q t mk) (t ^^^ 1))]) (st := []) (wr := []) (wf := [(a 0, avO a ((av_tf (av_ls1 q t mk) t (t ^^^ 1) (av_nd q t mk) (av_nods (av_ls1 q t mk) (t ^^^ 1))).1) ((av_tf (av_ls1 q t mk) t (t ^^^ 1) (av_nd q t mk) (av_nods (av_ls1 q t mk) (t ^^^ 1))).2.1)), (a 1, arI E 12 ((av_tf (av_ls1 q t mk) t (t ^^^ 1) (av_nd q t mk) (av_nods (av_ls1 q t mk) (t ^^^ 1))).2.2.1)), (a 2, arI E 12 ((av_tf (av_ls1 q t mk) t (t ^^^ 1) (av_nd q t mk) (av_nods (av_ls1 q t mk) (t ^^^ 1))).2.2.2.1)), (a 3, arI E 12 ((av_tf (av_ls1 q t mk) t (t ^^^ 1) (av_nd q t mk) (av_nods (av_ls1 q t mk) (t ^^^ 1))).2.2.2.2.1)), (a 4, arI E 96 ((av_tf (av_ls1 q t mk) t (t ^^^ 1) (av_nd q t mk) (av_nods (av_ls1 q t mk) (t ^^^ 1))).2.2.2.2.2))]) (q0 := 0) (ci := 0) rfl rfl (c_X0_takeFrom _ E (q := av_ls1 q t mk) (t := t) (w := t ^^^ 1) (ms := av_nd q t mk) (wt := av_nods (av_ls1 q t mk) (t ^^^ 1)) (a := a) (h1 := by omega) (h2 := by omega)) gX0_listen_X0_takeFrom cp_X0_takeFrom (by decide) [0, 1, 2, 3, 4] [] [0, 1, 2, 3, 4] ⟨rfl, rfl, by decide, rfl⟩ rfl rfl (Nat.le_of_ble_eq_true rfl) dX0_listen_119 ?_
            exact G.vret hX hQ dX0_listen_122 (by simp only [av_ls, c95, c104, decide_true, decide_false, Bool.true_and, Bool.false_and, Bool.not_true, Bool.not_false, ↓reduceIte, Bool.false_eq_true])
      refine G.iload hX 6 rfl dX0_listen_66 ?_
      refine G.if_eq hX (tgt := 93) (by decide) dX0_listen_68 (fun c68 => ?_) (fun c68 => ?_)
      · refine G.lvp (lv' := [(0, .ref (a 0)), (1, .int (nI t)), (2, .int mk), (4, .int (nI (t ^^^ 1))), (7, .int (av_nd q t mk))]) [1, 2, 3, 5, 0] rfl ?_
        refine G.we (ws' := [(a 0, avO a ((av_ls1 q t mk).1) ((av_ls1 q t mk).2.1)), (a 1, arI E 12 ((av_ls1 q t mk).2.2.1)), (a 2, arI E 12 ((av_ls1 q t mk).2.2.2.1)), (a 3, arI E 12 ((av_ls1 q t mk).2.2.2.2.1)), (a 4, arI E 96 ((av_ls1 q t mk).2.2.2.2.2))]) (by simp only [av_ls1, c68, decide_true, decide_false, Bool.true_and, Bool.false_and, Bool.not_true, Bool.not_false, ↓reduceIte, Bool.false_eq_true]) ?_
        exact J93
      · refine G.aload_n hX 1 rfl dX0_listen_71 ?_
        refine G.iload_n hX 2 rfl dX0_listen_72 ?_
        refine G.iconst hX (v := 0) (by decide) dX0_listen_73 ?_
        refine G.vi hX (As := [.int (nI t), .int 0]) (st := []) (wr := []) (wf := [(a 0, avO a q.1 q.2.1), (a 1, arI E 12 q.2.2.1), (a 2, arI E 12 q.2.2.2.1), (a 3, arI E 12 q.2.2.2.2.1), (a 4, arI E 96 q.2.2.2.2.2)]) (q0 := 0) (ci := 0) rfl rfl (c_X0_hears _ E (q := q) (t := t) (b := false) (a := a) (h1 := by omega)) gX0_listen_X0_hears cp_X0_hears (by decide) [0, 1, 2, 3, 4] [] [0, 1, 2, 3, 4] ⟨rfl, rfl, by decide, rfl⟩ rfl rfl (Nat.le_of_ble_eq_true rfl) dX0_listen_74 ?_
        refine G.b_eq hX (tgt := 93) (by decide) dX0_listen_77 (fun c77 => ?_) (fun c77 => ?_)
        · refine G.lvp (lv' := [(0, .ref (a 0)), (1, .int (nI t)), (2, .int mk), (4, .int (nI (t ^^^ 1))), (7, .int (av_nd q t mk))]) [1, 2, 3, 5, 0] rfl ?_
          refine G.we (ws' := [(a 0, avO a ((av_ls1 q t mk).1) ((av_ls1 q t mk).2.1)), (a 1, arI E 12 ((av_ls1 q t mk).2.2.1)), (a 2, arI E 12 ((av_ls1 q t mk).2.2.2.1)), (a 3, arI E 12 ((av_ls1 q t mk).2.2.2.2.1)), (a 4, arI E 96 ((av_ls1 q t mk).2.2.2.2.2))]) (by simp only [av_ls1, c68, c77, decide_true, decide_false, Bool.true_and, Bool.false_and, Bool.not_true, Bool.not_false, ↓reduceIte, Bool.false_eq_true]) ?_
          exact J93
        · refine G.aload_n hX 1 rfl dX0_listen_80 ?_
          refine G.iload_n hX 2 rfl dX0_listen_81 ?_
          refine G.iload_n hX 4 rfl dX0_listen_82 ?_
          refine G.iload hX 6 rfl dX0_listen_83 ?_
          refine G.aload_n hX 1 rfl dX0_listen_85 ?_
          refine G.iload_n hX 4 rfl dX0_listen_86 ?_
          refine G.vi hX (As := [.int (nI (t - 2))]) (st := [.int (av_lt q t mk), .int (nI (t - 2)), .int (nI t), .ref (a 0)]) (wr := []) (wf := [(a 0, avO a q.1 q.2.1), (a 1, arI E 12 q.2.2.1), (a 2, arI E 12 q.2.2.2.1), (a 3, arI E 12 q.2.2.2.2.1), (a 4, arI E 96 q.2.2.2.2.2)]) (q0 := 0) (ci := 0) rfl rfl (c_X0_leansOf _ E (q := q) (t := t - 2) (a := a) (h1 := by omega)) gX0_listen_X0_leansOf cp_X0_leansOf (by decide) [0, 1, 2, 3, 4] [] [0, 1, 2, 3, 4] ⟨rfl, rfl, by decide, rfl⟩ rfl rfl (Nat.le_of_ble_eq_true rfl) dX0_listen_87 ?_
          refine G.vv hX (As := [.int (nI t), .int (nI (t - 2)), .int (av_lt q t mk), .int (av_leans q (t - 2))]) (st := []) (wr := []) (wf := [(a 0, avO a ((av_tf q t (t - 2) (av_lt q t mk) (av_leans q (t - 2))).1) ((av_tf q t (t - 2) (av_lt q t mk) (av_leans q (t - 2))).2.1)), (a 1, arI E 12 ((av_tf q t (t - 2) (av_lt q t mk) (av_leans q (t - 2))).2.2.1)), (a 2, arI E 12 ((av_tf q t (t - 2) (av_lt q t mk) (av_leans q (t - 2))).2.2.2.1)), (a 3, arI E 12 ((av_tf q t (t - 2) (av_lt q t mk) (av_leans q (t - 2))).2.2.2.2.1)), (a 4, arI E 96 ((av_tf q t (t - 2) (av_lt q t mk) (av_leans q (t - 2))).2.2.2.2.2))]) (q0 := 0) (ci := 0) rfl rfl (c_X0_takeFrom _ E (q := q) (t := t) (w := t - 2) (ms := av_lt q t mk) (wt := av_leans q (t - 2)) (a := a) (h1 := by omega) (h2 := by omega)) gX0_listen_X0_takeFrom cp_X0_takeFrom (by decide) [0, 1, 2, 3, 4] [] [0, 1, 2, 3, 4] ⟨rfl, rfl, by decide, rfl⟩ rfl rfl (Nat.le_of_ble_eq_true rfl) dX0_listen_90 ?_
          refine G.lvp (lv' := [(0, .ref (a 0)), (1, .int (nI t)), (2, .int mk), (4, .int (nI (t ^^^ 1))), (7, .int (av_nd q t mk))]) [1, 2, 3, 5, 0] rfl ?_
          refine G.we (ws' := [(a 0, avO a ((av_ls1 q t mk).1) ((av_ls1 q t mk).2.1)), (a 1, arI E 12 ((av_ls1 q t mk).2.2.1)), (a 2, arI E 12 ((av_ls1 q t mk).2.2.2.1)), (a 3, arI E 12 ((av_ls1 q t mk).2.2.2.2.1)), (a 4, arI E 96 ((av_ls1 q t mk).2.2.2.2.2))]) (by simp only [av_ls1, c68, c77, decide_true, decide_false, Bool.true_and, Bool.false_and, Bool.not_true, Bool.not_false, ↓reduceIte, Bool.false_eq_true]) ?_
          exact J93
    refine G.aload_n hX 1 rfl dX0_listen_40 ?_
    refine G.iload_n hX 2 rfl dX0_listen_41 ?_
    refine G.iconst hX (v := 2) (by decide) dX0_listen_42 ?_
    refine G.idiv hX (by decide) dX0_listen_43 ?_
    refine G.ie (y := nI (t / 2)) (by exact pk_div (a := t) (d := 2) (by omega) (by omega) (by omega)) ?_
    refine G.vi hX (As := [.int (nI (t / 2))]) (st := []) (wr := []) (wf := [(a 0, avO a q.1 q.2.1), (a 1, arI E 12 q.2.2.1), (a 2, arI E 12 q.2.2.2.1), (a 3, arI E 12 q.2.2.2.2.1), (a 4, arI E 96 q.2.2.2.2.2)]) (q0 := 0) (ci := 0) rfl rfl (c_X0_isIntroduced _ E (q := q) (pl := t / 2) (a := a) (h1 := by omega)) gX0_listen_X0_isIntroduced cp_X0_isIntroduced (by decide) [0, 1, 2, 3, 4] [] [0, 1, 2, 3, 4] ⟨rfl, rfl, by decide, rfl⟩ rfl rfl (Nat.le_of_ble_eq_true rfl) dX0_listen_44 ?_
    refine G.b_eq hX (tgt := 63) (by decide) dX0_listen_47 (fun c47 => ?_) (fun c47 => ?_)
    · refine G.iconst hX (v := 0) (by decide) dX0_listen_63 ?_
      refine G.lvp (lv' := [(0, .ref (a 0)), (1, .int (nI t)), (2, .int mk), (3, .int (nI (t - 2))), (4, .int (nI (t ^^^ 1))), (6, .int (av_lt q t mk))]) [1, 2, 3, 4, 5, 0] rfl ?_
      refine G.ie (y := av_nd q t mk) (by first | rfl | (simp only [av_nd, c47, ↓reduceIte, Bool.not_true, Bool.not_false, Bool.and_true, Bool.true_and, Bool.and_false, Bool.false_and, Bool.or_true, Bool.true_or, Bool.or_false, Bool.false_or, decide_true, decide_false, not_true_eq_false, not_false_eq_true, Bool.false_eq_true, Bool.true_eq_false]; done) | (simp only [av_nd, c47, ↓reduceIte, Bool.not_true, Bool.not_false, Bool.and_true, Bool.true_and, Bool.and_false, Bool.false_and, Bool.or_true, Bool.true_or, Bool.or_false, Bool.false_or, decide_true, decide_false, not_true_eq_false, not_false_eq_true, Bool.false_eq_true, Bool.true_eq_false]; rfl) | (simp [av_nd, c47]; done)) ?_
      exact J64
    · refine G.iload hX 6 rfl dX0_listen_50 ?_
      refine G.aload_n hX 1 rfl dX0_listen_52 ?_
      refine G.get hX inc_X0_listen_0 0 rfl rfl 4 (by decide) (by decide +kernel) rfl dX0_listen_53 ?_
      refine G.iload hX 5 rfl dX0_listen_56 ?_
      refine G.iald hX (j := t ^^^ 1) 3 rfl (by omega) (by omega) dX0_listen_58 ?_
      refine G.iand hX dX0_listen_59 ?_
      refine G.goto hX (tgt := 64) (by decide) dX0_listen_60 ?_
      refine G.lvp (lv' := [(0, .ref (a 0)), (1, .int (nI t)), (2, .int mk), (3, .int (nI (t - 2))), (4, .int (nI (t ^^^ 1))), (6, .int (av_lt q t mk))]) [1, 2, 3, 4, 5, 0] rfl ?_
      refine G.ie (y := av_nd q t mk) (by first | rfl | (simp only [av_nd, c47, ↓reduceIte, Bool.not_true, Bool.not_false, Bool.and_true, Bool.true_and, Bool.and_false, Bool.false_and, Bool.or_true, Bool.true_or, Bool.or_false, Bool.false_or, decide_true, decide_false, not_true_eq_false, not_false_eq_true, Bool.false_eq_true, Bool.true_eq_false]; done) | (simp only [av_nd, c47, ↓reduceIte, Bool.not_true, Bool.not_false, Bool.and_true, Bool.true_and, Bool.and_false, Bool.false_and, Bool.or_true, Bool.true_or, Bool.or_false, Bool.false_or, decide_true, decide_false, not_true_eq_false, not_false_eq_true, Bool.false_eq_true, Bool.true_eq_false]; rfl) | (simp [av_nd, c47]; done)) ?_
      exact J64
  refine G.iload_n hX 2 rfl dX0_listen_21 ?_
  refine G.if_lt hX (tgt := 37) (by decide) dX0_listen_22 (fun c22 => absurd c22 (nI_pos (by omega))) (fun _ => ?_)
  refine G.iload hX 0 rfl dX0_listen_25 ?_
  refine G.aload_n hX 3 rfl dX0_listen_27 ?_
  refine G.get hX inc_X0_listen_0 0 rfl rfl 4 (by decide) (by decide +kernel) rfl dX0_listen_28 ?_
  refine G.iload_n hX 2 rfl dX0_listen_31 ?_
  refine G.iald hX (j := t - 2) 3 rfl (by omega) (by omega) dX0_listen_32 ?_
  refine G.iand hX dX0_listen_33 ?_
  refine G.goto hX (tgt := 38) (by decide) dX0_listen_34 ?_
  refine G.lvp (lv' := [(0, .ref (a 0)), (1, .int (nI t)), (2, .int mk), (3, .int (nI (t - 2))), (4, .int (nI (t ^^^ 1))), (5, .int (av_un q t mk))]) [3, 4, 5, 2, 1, 0] rfl ?_
  refine G.ie (y := av_lt q t mk) (by have h9 : ¬ t < 2 := (by omega); simp only [av_lt, h9, ↓reduceIte]) ?_
  exact J38
set_option maxHeartbeats 4000000 in
set_option maxRecDepth 100000 in
theorem c_X0_listen (l : Launch) (E : EV) (q : AV) (t : Nat) (mk : Int32) (a : Nat → Nat) (h1 : t < 12) : CV l yX0_listen wsX0_listen rmX0_listen E [.ref (a 0), .int (nI t), .int mk] [(a 0, avO a q.1 q.2.1), (a 1, arI E 12 q.2.2.1), (a 2, arI E 12 q.2.2.2.1), (a 3, arI E 12 q.2.2.2.2.1), (a 4, arI E 96 q.2.2.2.2.2)] [(a 0, avO a ((av_ls q t mk).1) ((av_ls q t mk).2.1)), (a 1, arI E 12 ((av_ls q t mk).2.2.1)), (a 2, arI E 12 ((av_ls q t mk).2.2.2.1)), (a 3, arI E 12 ((av_ls q t mk).2.2.2.2.1)), (a 4, arI E 96 ((av_ls q t mk).2.2.2.2.2))] := by
  rcases Nat.lt_or_ge t 2 with h9 | h9
  · exact c_X0_listenlo l E (q := q) (t := t) (mk := mk) (a := a) (h1 := h1) (h2 := h9)
  · exact c_X0_listenhi l E (q := q) (t := t) (mk := mk) (a := a) (h1 := h1) (h2 := h9)
abbrev rmX0_passYear : Room := { frames := 3, cells := 0, slots := 0, locals := 74 }
theorem cp_X0_passYear : CP yX0_passYear RX0 wsX0_passYear 3 1 rmX0_passYear := ⟨⟨_, _, _, rfl⟩, rfl, rfl, by decide +kernel⟩
theorem inc_X0_passYear_0 : ∀ w ∈ u_ws RX0 TX0 6, w ∈ wsX0_passYear := by decide +kernel
set_option maxHeartbeats 4000000 in
set_option maxRecDepth 100000 in
theorem c_X0_passYear (l : Launch) (E : EV) (q : AV) (mk : Int32) (a : Nat → Nat)  : CV l yX0_passYear wsX0_passYear rmX0_passYear E [.ref (a 0), .int mk] [(a 0, avO a q.1 q.2.1), (a 1, arI E 12 q.2.2.1), (a 2, arI E 12 q.2.2.2.1), (a 3, arI E 12 q.2.2.2.2.1), (a 4, arI E 96 q.2.2.2.2.2)] [(a 0, avO a ((av_yr mk q).1) ((av_yr mk q).2.1)), (a 1, arI E 12 ((av_yr mk q).2.2.1)), (a 2, arI E 12 ((av_yr mk q).2.2.2.1)), (a 3, arI E 12 ((av_yr mk q).2.2.2.2.1)), (a 4, arI E 96 ((av_yr mk q).2.2.2.2.2))] := by
  refine CV.of (own := RX0) (cc := cX0_passYear) (nL := 3) (rt := none) (by decide) rfl rfl (Nat.le_of_ble_eq_true rfl) (fun X hX hQ => ?_)
  show G E X 3 0 [(0, .ref (a 0)), (1, .int mk)] [] [(a 0, avO a q.1 q.2.1), (a 1, arI E 12 q.2.2.1), (a 2, arI E 12 q.2.2.2.1), (a 3, arI E 12 q.2.2.2.2.1), (a 4, arI E 96 q.2.2.2.2.2)]
  refine G.iconst hX (v := 0) (by decide) dX0_passYear_0 ?_
  refine G.istore_n hX (lv' := [(2, .int 0), (0, .ref (a 0)), (1, .int mk)]) rfl (by decide) rfl dX0_passYear_1 ?_
  have L2 : ∀ (n : Nat) (t : Nat), t ≤ 12 → 13 ≤ t + n → G E X 3 2 [(0, .ref (a 0)), (1, .int mk), (2, .int (nI t))] [] [(a 0, avO a ((it av_agS1 t q).1) ((it av_agS1 t q).2.1)), (a 1, arI E 12 ((it av_agS1 t q).2.2.1)), (a 2, arI E 12 ((it av_agS1 t q).2.2.2.1)), (a 3, arI E 12 ((it av_agS1 t q).2.2.2.2.1)), (a 4, arI E 96 ((it av_agS1 t q).2.2.2.2.2))] := by
    intro n
    induction n with
    | zero => intro t hl2_0 hl2_1; exact absurd hl2_1 (by omega)
    | succ n ih2 =>
      intro t hl2_0 hl2_1
      refine G.iload_n hX 2 rfl dX0_passYear_2 ?_
      refine G.bipush hX (v := 12) (by decide) dX0_passYear_3 ?_
      refine G.n_ge hX (a := t) (b := 12) (tgt := 34) (by omega) (by omega) (by decide) dX0_passYear_5 (fun c5 => ?_) (fun c5 => ?_)
      · obtain rfl : t = 12 := by omega
        refine G.we (ws' := [(a 0, avO a ((av_age q).1) ((av_age q).2.1)), (a 1, arI E 12 ((av_age q).2.2.1)), (a 2, arI E 12 ((av_age q).2.2.2.1)), (a 3, arI E 12 ((av_age q).2.2.2.2.1)), (a 4, arI E 96 ((av_age q).2.2.2.2.2))]) (by rw [av_age]) ?_
        refine G.iconst hX (v := 0) (by decide) dX0_passYear_34 ?_
        refine G.istore_n hX (lv' := [(2, .int 0), (0, .ref (a 0)), (1, .int mk)]) rfl (by decide) rfl dX0_passYear_35 ?_
        have L36 : ∀ (n : Nat) (t2 : Nat), t2 ≤ 12 → 13 ≤ t2 + n → G E X 3 36 [(0, .ref (a 0)), (1, .int mk), (2, .int (nI t2))] [] [(a 0, avO a ((it (av_lsS mk) t2 (av_age q)).1) ((it (av_lsS mk) t2 (av_age q)).2.1)), (a 1, arI E 12 ((it (av_lsS mk) t2 (av_age q)).2.2.1)), (a 2, arI E 12 ((it (av_lsS mk) t2 (av_age q)).2.2.2.1)), (a 3, arI E 12 ((it (av_lsS mk) t2 (av_age q)).2.2.2.2.1)), (a 4, arI E 96 ((it (av_lsS mk) t2 (av_age q)).2.2.2.2.2))] := by
          intro n
          induction n with
          | zero => intro t2 hl36_0 hl36_1; exact absurd hl36_1 (by omega)
          | succ n ih36 =>
            intro t2 hl36_0 hl36_1
            refine G.iload_n hX 2 rfl dX0_passYear_36 ?_
            refine G.bipush hX (v := 12) (by decide) dX0_passYear_37 ?_
            refine G.n_ge hX (a := t2) (b := 12) (tgt := 54) (by omega) (by omega) (by decide) dX0_passYear_39 (fun c39 => ?_) (fun c39 => ?_)
            · obtain rfl : t2 = 12 := by omega
              refine G.we (ws' := [(a 0, avO a ((av_yr1 mk q).1) ((av_yr1 mk q).2.1)), (a 1, arI E 12 ((av_yr1 mk q).2.2.1)), (a 2, arI E 12 ((av_yr1 mk q).2.2.2.1)), (a 3, arI E 12 ((av_yr1 mk q).2.2.2.2.1)), (a 4, arI E 96 ((av_yr1 mk q).2.2.2.2.2))]) (by rw [av_yr1]) ?_
              refine G.aload_n hX 0 rfl dX0_passYear_54 ?_
              refine G.dup hX rfl dX0_passYear_55 ?_
              refine G.get hX inc_X0_passYear_0 0 rfl rfl 0 (by decide) (by decide +kernel) rfl dX0_passYear_56 ?_
              refine G.iconst hX (v := 1) (by decide) dX0_passYear_59 ?_
              refine G.iadd hX dX0_passYear_60 ?_
              refine G.put hX (ws' := [(a 0, avO a (((av_yr1 mk q).1) + 1) ((av_yr1 mk q).2.1)), (a 1, arI E 12 ((av_yr1 mk q).2.2.1)), (a 2, arI E 12 ((av_yr1 mk q).2.2.2.1)), (a 3, arI E 12 ((av_yr1 mk q).2.2.2.2.1)), (a 4, arI E 96 ((av_yr1 mk q).2.2.2.2.2))]) inc_X0_passYear_0 tyX0 tyX0_ok nmX0 0 rfl rfl 0 (by decide) (by decide +kernel) rfl (tyX0_ok 0 (by decide)) rfl rfl (Nat.le_of_ble_eq_true rfl) rfl rfl dX0_passYear_61 ?_
              exact G.vret hX hQ dX0_passYear_64 (by simp only [av_yr])
            · refine G.aload_n hX 0 rfl dX0_passYear_42 ?_
              refine G.iload_n hX 2 rfl dX0_passYear_43 ?_
              refine G.iload_n hX 1 rfl dX0_passYear_44 ?_
              refine G.vv hX (As := [.int (nI t2), .int mk]) (st := []) (wr := []) (wf := [(a 0, avO a ((av_ls (it (av_lsS mk) t2 (av_age q)) t2 mk).1) ((av_ls (it (av_lsS mk) t2 (av_age q)) t2 mk).2.1)), (a 1, arI E 12 ((av_ls (it (av_lsS mk) t2 (av_age q)) t2 mk).2.2.1)), (a 2, arI E 12 ((av_ls (it (av_lsS mk) t2 (av_age q)) t2 mk).2.2.2.1)), (a 3, arI E 12 ((av_ls (it (av_lsS mk) t2 (av_age q)) t2 mk).2.2.2.2.1)), (a 4, arI E 96 ((av_ls (it (av_lsS mk) t2 (av_age q)) t2 mk).2.2.2.2.2))]) (q0 := 0) (ci := 0) rfl rfl (c_X0_listen _ E (q := it (av_lsS mk) t2 (av_age q)) (t := t2) (mk := mk) (a := a) (h1 := by omega)) gX0_passYear_X0_listen cp_X0_listen (by decide) [0, 1, 2, 3, 4] [] [0, 1, 2, 3, 4] ⟨rfl, rfl, by decide, rfl⟩ rfl rfl (Nat.le_of_ble_eq_true rfl) dX0_passYear_45 ?_
              refine G.iinc hX (n := 1) (lv' := [(2, .int (nI (t2 + 1))), (0, .ref (a 0)), (1, .int mk)]) 2 rfl (inc_nI t2 1 rfl) (by decide) rfl dX0_passYear_48 ?_
              refine G.goto hX (tgt := 36) (by decide) dX0_passYear_51 ?_
              refine G.lvp (lv' := [(0, .ref (a 0)), (1, .int mk), (2, .int (nI (t2 + 1)))]) [1, 2, 0] rfl ?_
              refine G.lve (lv' := [(0, .ref (a 0)), (1, .int mk), (2, .int (nI ((t2 + 1))))]) (by rfl) ?_
              refine G.we (ws' := [(a 0, avO a ((it (av_lsS mk) (t2 + 1) (av_age q)).1) ((it (av_lsS mk) (t2 + 1) (av_age q)).2.1)), (a 1, arI E 12 ((it (av_lsS mk) (t2 + 1) (av_age q)).2.2.1)), (a 2, arI E 12 ((it (av_lsS mk) (t2 + 1) (av_age q)).2.2.2.1)), (a 3, arI E 12 ((it (av_lsS mk) (t2 + 1) (av_age q)).2.2.2.2.1)), (a 4, arI E 96 ((it (av_lsS mk) (t2 + 1) (av_age q)).2.2.2.2.2))]) (by rfl) ?_
              exact ih36 (t2 + 1) (by omega) (by omega)
        refine G.lvp (lv' := [(0, .ref (a 0)), (1, .int mk), (2, .int 0)]) [1, 2, 0] rfl ?_
        refine G.lve (lv' := [(0, .ref (a 0)), (1, .int mk), (2, .int (nI 0))]) (by rfl) ?_
        refine G.we (ws' := [(a 0, avO a ((it (av_lsS mk) 0 (av_age q)).1) ((it (av_lsS mk) 0 (av_age q)).2.1)), (a 1, arI E 12 ((it (av_lsS mk) 0 (av_age q)).2.2.1)), (a 2, arI E 12 ((it (av_lsS mk) 0 (av_age q)).2.2.2.1)), (a 3, arI E 12 ((it (av_lsS mk) 0 (av_age q)).2.2.2.2.1)), (a 4, arI E 96 ((it (av_lsS mk) 0 (av_age q)).2.2.2.2.2))]) (by rfl) ?_
        exact L36 13 0 (by omega) (by omega)
      · refine G.aload_n hX 0 rfl dX0_passYear_8 ?_
        refine G.get hX inc_X0_passYear_0 0 rfl rfl 3 (by decide) (by decide +kernel) rfl dX0_passYear_9 ?_
        refine G.iload_n hX 2 rfl dX0_passYear_12 ?_
        refine G.aload_n hX 0 rfl dX0_passYear_13 ?_
        refine G.get hX inc_X0_passYear_0 0 rfl rfl 3 (by decide) (by decide +kernel) rfl dX0_passYear_14 ?_
        refine G.iload_n hX 2 rfl dX0_passYear_17 ?_
        refine G.iald hX (j := t) 2 rfl (by omega) (by omega) dX0_passYear_18 ?_
        refine G.iconst hX (v := 1) (by decide) dX0_passYear_19 ?_
        refine G.iadd hX dX0_passYear_20 ?_
        refine G.sipush hX (v := 999) (by decide) dX0_passYear_21 ?_
        refine G.mmin hX (by decide +kernel) (by decide +kernel) (by decide +kernel) (by decide +kernel) (by decide) (Nat.le_of_ble_eq_true rfl) dX0_passYear_24 ?_
        refine G.iast hX (j := t) (ws' := [(a 0, avO a ((it av_agS1 t q).1) ((it av_agS1 t q).2.1)), (a 1, arI E 12 ((it av_agS1 t q).2.2.1)), (a 2, arI E 12 (upd ((it av_agS1 t q).2.2.2.1) t (if 999 < (((it av_agS1 t q).2.2.2.1) t) + 1 then 999 else (((it av_agS1 t q).2.2.2.1) t) + 1))), (a 3, arI E 12 ((it av_agS1 t q).2.2.2.2.1)), (a 4, arI E 96 ((it av_agS1 t q).2.2.2.2.2))]) 2 rfl (by omega) (by omega) rfl rfl dX0_passYear_27 ?_
        refine G.iinc hX (n := 1) (lv' := [(2, .int (nI (t + 1))), (0, .ref (a 0)), (1, .int mk)]) 2 rfl (inc_nI t 1 rfl) (by decide) rfl dX0_passYear_28 ?_
        refine G.goto hX (tgt := 2) (by decide) dX0_passYear_31 ?_
        refine G.lvp (lv' := [(0, .ref (a 0)), (1, .int mk), (2, .int (nI (t + 1)))]) [1, 2, 0] rfl ?_
        refine G.lve (lv' := [(0, .ref (a 0)), (1, .int mk), (2, .int (nI ((t + 1))))]) (by rfl) ?_
        refine G.we (ws' := [(a 0, avO a ((it av_agS1 (t + 1) q).1) ((it av_agS1 (t + 1) q).2.1)), (a 1, arI E 12 ((it av_agS1 (t + 1) q).2.2.1)), (a 2, arI E 12 ((it av_agS1 (t + 1) q).2.2.2.1)), (a 3, arI E 12 ((it av_agS1 (t + 1) q).2.2.2.2.1)), (a 4, arI E 96 ((it av_agS1 (t + 1) q).2.2.2.2.2))]) (by rfl) ?_
        exact ih2 (t + 1) (by omega) (by omega)
  refine G.lvp (lv' := [(0, .ref (a 0)), (1, .int mk), (2, .int 0)]) [1, 2, 0] rfl ?_
  refine G.lve (lv' := [(0, .ref (a 0)), (1, .int mk), (2, .int (nI 0))]) (by rfl) ?_
  refine G.we (ws' := [(a 0, avO a ((it av_agS1 0 q).1) ((it av_agS1 0 q).2.1)), (a 1, arI E 12 ((it av_agS1 0 q).2.2.1)), (a 2, arI E 12 ((it av_agS1 0 q).2.2.2.1)), (a 3, arI E 12 ((it av_agS1 0 q).2.2.2.2.1)), (a 4, arI E 96 ((it av_agS1 0 q).2.2.2.2.2))]) (by rfl) ?_
  exact L2 13 0 (by omega) (by omega)
abbrev rmX0_passYears : Room := { frames := 4, cells := 0, slots := 0, locals := 96 }
theorem cp_X0_passYears : CP yX0_passYears RX0 wsX0_passYears 3 1 rmX0_passYears := ⟨⟨_, _, _, rfl⟩, rfl, rfl, by decide +kernel⟩
set_option maxHeartbeats 4000000 in
set_option maxRecDepth 100000 in
theorem c_X0_passYears (l : Launch) (E : EV) (q : AV) (n0 : Nat) (a : Nat → Nat) (h1 : n0 < 1000) : CV l yX0_passYears wsX0_passYears rmX0_passYears E [.ref (a 0), .int (nI n0)] [(a 0, avO a q.1 q.2.1), (a 1, arI E 12 q.2.2.1), (a 2, arI E 12 q.2.2.2.1), (a 3, arI E 12 q.2.2.2.2.1), (a 4, arI E 96 q.2.2.2.2.2)] [(a 0, avO a ((av_ys 255 n0 q).1) ((av_ys 255 n0 q).2.1)), (a 1, arI E 12 ((av_ys 255 n0 q).2.2.1)), (a 2, arI E 12 ((av_ys 255 n0 q).2.2.2.1)), (a 3, arI E 12 ((av_ys 255 n0 q).2.2.2.2.1)), (a 4, arI E 96 ((av_ys 255 n0 q).2.2.2.2.2))] := by
  refine CV.of (own := RX0) (cc := cX0_passYears) (nL := 3) (rt := none) (by decide) rfl rfl (Nat.le_of_ble_eq_true rfl) (fun X hX hQ => ?_)
  show G E X 3 0 [(0, .ref (a 0)), (1, .int (nI n0))] [] [(a 0, avO a q.1 q.2.1), (a 1, arI E 12 q.2.2.1), (a 2, arI E 12 q.2.2.2.1), (a 3, arI E 12 q.2.2.2.2.1), (a 4, arI E 96 q.2.2.2.2.2)]
  refine G.iconst hX (v := 0) (by decide) dX0_passYears_0 ?_
  refine G.istore_n hX (lv' := [(2, .int 0), (0, .ref (a 0)), (1, .int (nI n0))]) rfl (by decide) rfl dX0_passYears_1 ?_
  have L2 : ∀ (n : Nat) (k : Nat), k ≤ n0 → n0 + 1 ≤ k + n → G E X 3 2 [(0, .ref (a 0)), (1, .int (nI n0)), (2, .int (nI k))] [] [(a 0, avO a ((av_ys 255 k q).1) ((av_ys 255 k q).2.1)), (a 1, arI E 12 ((av_ys 255 k q).2.2.1)), (a 2, arI E 12 ((av_ys 255 k q).2.2.2.1)), (a 3, arI E 12 ((av_ys 255 k q).2.2.2.2.1)), (a 4, arI E 96 ((av_ys 255 k q).2.2.2.2.2))] := by
    intro n
    induction n with
    | zero => intro k hl2_0 hl2_1; exact absurd hl2_1 (by omega)
    | succ n ih2 =>
      intro k hl2_0 hl2_1
      refine G.iload_n hX 2 rfl dX0_passYears_2 ?_
      refine G.iload_n hX 1 rfl dX0_passYears_3 ?_
      refine G.n_ge hX (a := k) (b := n0) (tgt := 20) (by omega) (by omega) (by decide) dX0_passYears_4 (fun c4 => ?_) (fun c4 => ?_)
      · exact G.vret hX hQ dX0_passYears_20 (by obtain rfl : k = n0 := (by omega); rfl)
      · refine G.aload_n hX 0 rfl dX0_passYears_7 ?_
        refine G.sipush hX (v := 255) (by decide) dX0_passYears_8 ?_
        refine G.vv hX (As := [.int 255]) (st := []) (wr := []) (wf := [(a 0, avO a ((av_yr 255 (av_ys 255 k q)).1) ((av_yr 255 (av_ys 255 k q)).2.1)), (a 1, arI E 12 ((av_yr 255 (av_ys 255 k q)).2.2.1)), (a 2, arI E 12 ((av_yr 255 (av_ys 255 k q)).2.2.2.1)), (a 3, arI E 12 ((av_yr 255 (av_ys 255 k q)).2.2.2.2.1)), (a 4, arI E 96 ((av_yr 255 (av_ys 255 k q)).2.2.2.2.2))]) (q0 := 0) (ci := 0) rfl rfl (c_X0_passYear _ E (q := av_ys 255 k q) (mk := 255) (a := a) ) gX0_passYears_X0_passYear cp_X0_passYear (by decide) [0, 1, 2, 3, 4] [] [0, 1, 2, 3, 4] ⟨rfl, rfl, by decide, rfl⟩ rfl rfl (Nat.le_of_ble_eq_true rfl) dX0_passYears_11 ?_
        refine G.iinc hX (n := 1) (lv' := [(2, .int (nI (k + 1))), (0, .ref (a 0)), (1, .int (nI n0))]) 2 rfl (inc_nI k 1 rfl) (by decide) rfl dX0_passYears_14 ?_
        refine G.goto hX (tgt := 2) (by decide) dX0_passYears_17 ?_
        refine G.lvp (lv' := [(0, .ref (a 0)), (1, .int (nI n0)), (2, .int (nI (k + 1)))]) [1, 2, 0] rfl ?_
        refine G.lve (lv' := [(0, .ref (a 0)), (1, .int (nI n0)), (2, .int (nI ((k + 1))))]) (by rfl) ?_
        refine G.we (ws' := [(a 0, avO a ((av_ys 255 (k + 1) q).1) ((av_ys 255 (k + 1) q).2.1)), (a 1, arI E 12 ((av_ys 255 (k + 1) q).2.2.1)), (a 2, arI E 12 ((av_ys 255 (k + 1) q).2.2.2.1)), (a 3, arI E 12 ((av_ys 255 (k + 1) q).2.2.2.2.1)), (a 4, arI E 96 ((av_ys 255 (k + 1) q).2.2.2.2.2))]) (by rfl) ?_
        exact ih2 (k + 1) (by omega) (by omega)
  refine G.lvp (lv' := [(0, .ref (a 0)), (1, .int (nI n0)), (2, .int 0)]) [1, 2, 0] rfl ?_
  refine G.lve (lv' := [(0, .ref (a 0)), (1, .int (nI n0)), (2, .int (nI 0))]) (by rfl) ?_
  refine G.we (ws' := [(a 0, avO a ((av_ys 255 0 q).1) ((av_ys 255 0 q).2.1)), (a 1, arI E 12 ((av_ys 255 0 q).2.2.1)), (a 2, arI E 12 ((av_ys 255 0 q).2.2.2.1)), (a 3, arI E 12 ((av_ys 255 0 q).2.2.2.2.1)), (a 4, arI E 96 ((av_ys 255 0 q).2.2.2.2.2))]) (by rfl) ?_
  exact L2 (n0 + 1) 0 (by omega) (by omega)
abbrev rmX0_blow : Room := { frames := 2, cells := 0, slots := 0, locals := 42 }
theorem cp_X0_blow : CP yX0_blow RX0 wsX0_blow 5 0 rmX0_blow := ⟨⟨_, _, _, rfl⟩, rfl, rfl, by decide +kernel⟩
set_option maxHeartbeats 4000000 in
set_option maxRecDepth 100000 in
theorem c_X0_blow (l : Launch) (E : EV) (q : AV) (a : Nat → Nat)  : CI l yX0_blow wsX0_blow rmX0_blow E [.ref (a 0)] [(a 0, avO a q.1 q.2.1), (a 1, arI E 12 q.2.2.1), (a 2, arI E 12 q.2.2.2.1), (a 3, arI E 12 q.2.2.2.2.1), (a 4, arI E 96 q.2.2.2.2.2)] [(a 0, avO a ((av_bl q).1) ((av_bl q).2.1)), (a 1, arI E 12 ((av_bl q).2.2.1)), (a 2, arI E 12 ((av_bl q).2.2.2.1)), (a 3, arI E 12 ((av_bl q).2.2.2.2.1)), (a 4, arI E 96 ((av_bl q).2.2.2.2.2))] (av_all (av_bl q) - av_all q) := by
  refine CI.of (own := RX0) (cc := cX0_blow) (nL := 5) (rt := (some .int)) (by decide) rfl rfl (Nat.le_of_ble_eq_true rfl) (fun X hX hQ => ?_)
  show G E X 5 0 [(0, .ref (a 0))] [] [(a 0, avO a q.1 q.2.1), (a 1, arI E 12 q.2.2.1), (a 2, arI E 12 q.2.2.2.1), (a 3, arI E 12 q.2.2.2.2.1), (a 4, arI E 96 q.2.2.2.2.2)]
  refine G.aload_n hX 0 rfl dX0_blow_0 ?_
  refine G.vi hX (As := []) (st := []) (wr := []) (wf := [(a 0, avO a q.1 q.2.1), (a 1, arI E 12 q.2.2.1), (a 2, arI E 12 q.2.2.2.1), (a 3, arI E 12 q.2.2.2.2.1), (a 4, arI E 96 q.2.2.2.2.2)]) (q0 := 0) (ci := 0) rfl rfl (c_X0_knownInAll _ E (q := q) (a := a) ) gX0_blow_X0_knownInAll cp_X0_knownInAll (by decide) [0, 1, 2, 3, 4] [] [0, 1, 2, 3, 4] ⟨rfl, rfl, by decide, rfl⟩ rfl rfl (Nat.le_of_ble_eq_true rfl) dX0_blow_1 ?_
  refine G.istore_n hX (lv' := [(1, .int (av_all q)), (0, .ref (a 0))]) rfl (by decide) rfl dX0_blow_4 ?_
  refine G.aload_n hX 1 rfl dX0_blow_5 ?_
  refine G.vi hX (As := []) (st := []) (wr := []) (wf := [(a 0, avO a q.1 q.2.1), (a 1, arI E 12 q.2.2.1), (a 2, arI E 12 q.2.2.2.1), (a 3, arI E 12 q.2.2.2.2.1), (a 4, arI E 96 q.2.2.2.2.2)]) (q0 := 0) (ci := 0) rfl rfl (c_X0_knownByAny _ E (q := q) (a := a) ) gX0_blow_X0_knownByAny cp_X0_knownByAny (by decide) [0, 1, 2, 3, 4] [] [0, 1, 2, 3, 4] ⟨rfl, rfl, by decide, rfl⟩ rfl rfl (Nat.le_of_ble_eq_true rfl) dX0_blow_6 ?_
  refine G.istore_n hX (lv' := [(2, .int (av_any q)), (1, .int (av_all q)), (0, .ref (a 0))]) rfl (by decide) rfl dX0_blow_9 ?_
  refine G.iconst hX (v := 0) (by decide) dX0_blow_10 ?_
  refine G.istore_n hX (lv' := [(3, .int 0), (2, .int (av_any q)), (1, .int (av_all q)), (0, .ref (a 0))]) rfl (by decide) rfl dX0_blow_11 ?_
  have L12 : ∀ (n : Nat) (t : Nat), t ≤ 12 → 13 ≤ t + n → G E X 5 12 [(0, .ref (a 0)), (1, .int (av_all q)), (2, .int (av_any q)), (3, .int (nI t))] [] [(a 0, avO a ((it (av_blS (av_any q)) t q).1) ((it (av_blS (av_any q)) t q).2.1)), (a 1, arI E 12 ((it (av_blS (av_any q)) t q).2.2.1)), (a 2, arI E 12 ((it (av_blS (av_any q)) t q).2.2.2.1)), (a 3, arI E 12 ((it (av_blS (av_any q)) t q).2.2.2.2.1)), (a 4, arI E 96 ((it (av_blS (av_any q)) t q).2.2.2.2.2))] := by
    intro n
    induction n with
    | zero => intro t hl12_0 hl12_1; exact absurd hl12_1 (by omega)
    | succ n ih12 =>
      intro t hl12_0 hl12_1
      refine G.iload_n hX 3 rfl dX0_blow_12 ?_
      refine G.bipush hX (v := 12) (by decide) dX0_blow_13 ?_
      refine G.n_ge hX (a := t) (b := 12) (tgt := 79) (by omega) (by omega) (by decide) dX0_blow_15 (fun c15 => ?_) (fun c15 => ?_)
      · obtain rfl : t = 12 := by omega
        refine G.we (ws' := [(a 0, avO a ((av_bl q).1) ((av_bl q).2.1)), (a 1, arI E 12 ((av_bl q).2.2.1)), (a 2, arI E 12 ((av_bl q).2.2.2.1)), (a 3, arI E 12 ((av_bl q).2.2.2.2.1)), (a 4, arI E 96 ((av_bl q).2.2.2.2.2))]) (by rw [av_bl]) ?_
        refine G.aload_n hX 0 rfl dX0_blow_79 ?_
        refine G.vi hX (As := []) (st := []) (wr := []) (wf := [(a 0, avO a ((av_bl q).1) ((av_bl q).2.1)), (a 1, arI E 12 ((av_bl q).2.2.1)), (a 2, arI E 12 ((av_bl q).2.2.2.1)), (a 3, arI E 12 ((av_bl q).2.2.2.2.1)), (a 4, arI E 96 ((av_bl q).2.2.2.2.2))]) (q0 := 0) (ci := 0) rfl rfl (c_X0_knownInAll _ E (q := av_bl q) (a := a) ) gX0_blow_X0_knownInAll cp_X0_knownInAll (by decide) [0, 1, 2, 3, 4] [] [0, 1, 2, 3, 4] ⟨rfl, rfl, by decide, rfl⟩ rfl rfl (Nat.le_of_ble_eq_true rfl) dX0_blow_80 ?_
        refine G.iload_n hX 1 rfl dX0_blow_83 ?_
        refine G.isub hX dX0_blow_84 ?_
        exact G.iret hX hQ dX0_blow_85 (by first | rfl | (simp only [c15, ↓reduceIte, Bool.not_true, Bool.not_false, Bool.and_true, Bool.true_and, Bool.and_false, Bool.false_and, Bool.or_true, Bool.true_or, Bool.or_false, Bool.false_or, decide_true, decide_false, not_true_eq_false, not_false_eq_true, Bool.false_eq_true, Bool.true_eq_false]; done) | (simp only [c15, ↓reduceIte, Bool.not_true, Bool.not_false, Bool.and_true, Bool.true_and, Bool.and_false, Bool.false_and, Bool.or_true, Bool.true_or, Bool.or_false, Bool.false_or, decide_true, decide_false, not_true_eq_false, not_false_eq_true, Bool.false_eq_true, Bool.true_eq_false]; rfl) | (simp [c15]; done)) (by rfl)
      · have J73 : G E X 5 73 [(0, .ref (a 0)), (1, .int (av_all q)), (2, .int (av_any q)), (3, .int (nI t))] [] [(a 0, avO a ((it (av_blS (av_any q)) (t + 1) q).1) ((it (av_blS (av_any q)) (t + 1) q).2.1)), (a 1, arI E 12 ((it (av_blS (av_any q)) (t + 1) q).2.2.1)), (a 2, arI E 12 ((it (av_blS (av_any q)) (t + 1) q).2.2.2.1)), (a 3, arI E 12 ((it (av_blS (av_any q)) (t + 1) q).2.2.2.2.1)), (a 4, arI E 96 ((it (av_blS (av_any q)) (t + 1) q).2.2.2.2.2))] := by
          refine G.iinc hX (n := 1) (lv' := [(3, .int (nI (t + 1))), (0, .ref (a 0)), (1, .int (av_all q)), (2, .int (av_any q))]) 3 rfl (inc_nI t 1 rfl) (by decide) rfl dX0_blow_73 ?_
          refine G.goto hX (tgt := 12) (by decide) dX0_blow_76 ?_
          refine G.lvp (lv' := [(0, .ref (a 0)), (1, .int (av_all q)), (2, .int (av_any q)), (3, .int (nI (t + 1)))]) [1, 2, 3, 0] rfl ?_
          refine G.lve (lv' := [(0, .ref (a 0)), (1, .int (av_all q)), (2, .int (av_any q)), (3, .int (nI ((t + 1))))]) (by rfl) ?_
          exact ih12 (t + 1) (by omega) (by omega)
        refine G.aload_n hX 0 rfl dX0_blow_18 ?_
        refine G.iload_n hX 3 rfl dX0_blow_19 ?_
        refine G.iconst hX (v := 1) (by decide) dX0_blow_20 ?_
        refine G.vi hX (As := [.int (nI t), .int 1]) (st := []) (wr := []) (wf := [(a 0, avO a ((it (av_blS (av_any q)) t q).1) ((it (av_blS (av_any q)) t q).2.1)), (a 1, arI E 12 ((it (av_blS (av_any q)) t q).2.2.1)), (a 2, arI E 12 ((it (av_blS (av_any q)) t q).2.2.2.1)), (a 3, arI E 12 ((it (av_blS (av_any q)) t q).2.2.2.2.1)), (a 4, arI E 96 ((it (av_blS (av_any q)) t q).2.2.2.2.2))]) (q0 := 0) (ci := 0) rfl rfl (c_X0_hears _ E (q := it (av_blS (av_any q)) t q) (t := t) (b := true) (a := a) (h1 := by omega)) gX0_blow_X0_hears cp_X0_hears (by decide) [0, 1, 2, 3, 4] [] [0, 1, 2, 3, 4] ⟨rfl, rfl, by decide, rfl⟩ rfl rfl (Nat.le_of_ble_eq_true rfl) dX0_blow_21 ?_
        refine G.b_ne hX (tgt := 30) (by decide) dX0_blow_24 (fun c24 => ?_) (fun c24 => ?_)
        · refine G.iconst hX (v := 0) (by decide) dX0_blow_30 ?_
          refine G.istore hX (lv' := [(4, .int 0), (0, .ref (a 0)), (1, .int (av_all q)), (2, .int (av_any q)), (3, .int (nI t))]) (by decide) rfl dX0_blow_31 ?_
          have L33 : ∀ (n : Nat) (m : Nat), m ≤ 8 → 9 ≤ m + n → G E X 5 33 [(0, .ref (a 0)), (1, .int (av_all q)), (2, .int (av_any q)), (3, .int (nI t)), (4, .int (nI m))] [] [(a 0, avO a ((it (av_blS2 (av_any q) t) m (it (av_blS (av_any q)) t q)).1) ((it (av_blS2 (av_any q) t) m (it (av_blS (av_any q)) t q)).2.1)), (a 1, arI E 12 ((it (av_blS2 (av_any q) t) m (it (av_blS (av_any q)) t q)).2.2.1)), (a 2, arI E 12 ((it (av_blS2 (av_any q) t) m (it (av_blS (av_any q)) t q)).2.2.2.1)), (a 3, arI E 12 ((it (av_blS2 (av_any q) t) m (it (av_blS (av_any q)) t q)).2.2.2.2.1)), (a 4, arI E 96 ((it (av_blS2 (av_any q) t) m (it (av_blS (av_any q)) t q)).2.2.2.2.2))] := by
            intro n
            induction n with
            | zero => intro m hl33_0 hl33_1; exact absurd hl33_1 (by omega)
            | succ n ih33 =>
              intro m hl33_0 hl33_1
              refine G.iload hX 4 rfl dX0_blow_33 ?_
              refine G.bipush hX (v := 8) (by decide) dX0_blow_35 ?_
              refine G.n_ge hX (a := m) (b := 8) (tgt := 73) (by omega) (by omega) (by decide) dX0_blow_37 (fun c37 => ?_) (fun c37 => ?_)
              · refine G.lvp (lv' := [(0, .ref (a 0)), (1, .int (av_all q)), (2, .int (av_any q)), (3, .int (nI t))]) [0, 1, 2, 3] rfl ?_
                refine G.we (ws' := [(a 0, avO a ((it (av_blS (av_any q)) (t + 1) q).1) ((it (av_blS (av_any q)) (t + 1) q).2.1)), (a 1, arI E 12 ((it (av_blS (av_any q)) (t + 1) q).2.2.1)), (a 2, arI E 12 ((it (av_blS (av_any q)) (t + 1) q).2.2.2.1)), (a 3, arI E 12 ((it (av_blS (av_any q)) (t + 1) q).2.2.2.2.1)), (a 4, arI E 96 ((it (av_blS (av_any q)) (t + 1) q).2.2.2.2.2))]) (by first | (simp only [it_s, av_blS, c15, c24, c37, ↓reduceIte, Bool.false_eq_true]; done) | (obtain rfl : m = 8 := (by omega); simp only [it_s, av_blS, c15, c24, c37, ↓reduceIte]; done)) ?_
                exact J73
              · have J67 : G E X 5 67 [(0, .ref (a 0)), (1, .int (av_all q)), (2, .int (av_any q)), (3, .int (nI t)), (4, .int (nI m))] [] [(a 0, avO a ((it (av_blS2 (av_any q) t) (m + 1) (it (av_blS (av_any q)) t q)).1) ((it (av_blS2 (av_any q) t) (m + 1) (it (av_blS (av_any q)) t q)).2.1)), (a 1, arI E 12 ((it (av_blS2 (av_any q) t) (m + 1) (it (av_blS (av_any q)) t q)).2.2.1)), (a 2, arI E 12 ((it (av_blS2 (av_any q) t) (m + 1) (it (av_blS (av_any q)) t q)).2.2.2.1)), (a 3, arI E 12 ((it (av_blS2 (av_any q) t) (m + 1) (it (av_blS (av_any q)) t q)).2.2.2.2.1)), (a 4, arI E 96 ((it (av_blS2 (av_any q) t) (m + 1) (it (av_blS (av_any q)) t q)).2.2.2.2.2))] := by
                  refine G.iinc hX (n := 1) (lv' := [(4, .int (nI (m + 1))), (0, .ref (a 0)), (1, .int (av_all q)), (2, .int (av_any q)), (3, .int (nI t))]) 4 rfl (inc_nI m 1 rfl) (by decide) rfl dX0_blow_67 ?_
                  refine G.goto hX (tgt := 33) (by decide) dX0_blow_70 ?_
                  refine G.lvp (lv' := [(0, .ref (a 0)), (1, .int (av_all q)), (2, .int (av_any q)), (3, .int (nI t)), (4, .int (nI (m + 1)))]) [1, 2, 3, 4, 0] rfl ?_
                  refine G.lve (lv' := [(0, .ref (a 0)), (1, .int (av_all q)), (2, .int (av_any q)), (3, .int (nI t)), (4, .int (nI ((m + 1))))]) (by rfl) ?_
                  exact ih33 (m + 1) (by omega) (by omega)
                refine G.iload_n hX 2 rfl dX0_blow_40 ?_
                refine G.iload hX 4 rfl dX0_blow_41 ?_
                refine G.ishr hX dX0_blow_43 ?_
                refine G.iconst hX (v := 1) (by decide) dX0_blow_44 ?_
                refine G.iand hX dX0_blow_45 ?_
                refine G.iconst hX (v := 1) (by decide) dX0_blow_46 ?_
                refine G.icmp_ne hX (tgt := 67) (by decide) dX0_blow_47 (fun c47 => ?_) (fun c47 => ?_)
                · refine G.we (ws' := [(a 0, avO a ((it (av_blS2 (av_any q) t) (m + 1) (it (av_blS (av_any q)) t q)).1) ((it (av_blS2 (av_any q) t) (m + 1) (it (av_blS (av_any q)) t q)).2.1)), (a 1, arI E 12 ((it (av_blS2 (av_any q) t) (m + 1) (it (av_blS (av_any q)) t q)).2.2.1)), (a 2, arI E 12 ((it (av_blS2 (av_any q) t) (m + 1) (it (av_blS (av_any q)) t q)).2.2.2.1)), (a 3, arI E 12 ((it (av_blS2 (av_any q) t) (m + 1) (it (av_blS (av_any q)) t q)).2.2.2.2.1)), (a 4, arI E 96 ((it (av_blS2 (av_any q) t) (m + 1) (it (av_blS (av_any q)) t q)).2.2.2.2.2))]) (by simp only [it_s, av_blS2, c15, c24, c37, c47, decide_true, decide_false, Bool.true_and, Bool.false_and, Bool.not_true, Bool.not_false, ↓reduceIte, Bool.false_eq_true]) ?_
                  exact J67
                · refine G.aload_n hX 0 rfl dX0_blow_50 ?_
                  refine G.iload_n hX 3 rfl dX0_blow_51 ?_
                  refine G.iload hX 4 rfl dX0_blow_52 ?_
                  refine G.vi hX (As := [.int (nI t), .int (nI m)]) (st := []) (wr := []) (wf := [(a 0, avO a ((it (av_blS2 (av_any q) t) m (it (av_blS (av_any q)) t q)).1) ((it (av_blS2 (av_any q) t) m (it (av_blS (av_any q)) t q)).2.1)), (a 1, arI E 12 ((it (av_blS2 (av_any q) t) m (it (av_blS (av_any q)) t q)).2.2.1)), (a 2, arI E 12 ((it (av_blS2 (av_any q) t) m (it (av_blS (av_any q)) t q)).2.2.2.1)), (a 3, arI E 12 ((it (av_blS2 (av_any q) t) m (it (av_blS (av_any q)) t q)).2.2.2.2.1)), (a 4, arI E 96 ((it (av_blS2 (av_any q) t) m (it (av_blS (av_any q)) t q)).2.2.2.2.2))]) (q0 := 0) (ci := 0) rfl rfl (c_X0_knows _ E (q := it (av_blS2 (av_any q) t) m (it (av_blS (av_any q)) t q)) (t := t) (m := m) (a := a) (h1 := by omega) (h2 := by omega)) gX0_blow_X0_knows cp_X0_knows (by decide) [0, 1, 2, 3, 4] [] [0, 1, 2, 3, 4] ⟨rfl, rfl, by decide, rfl⟩ rfl rfl (Nat.le_of_ble_eq_true rfl) dX0_blow_54 ?_
                  refine G.b_ne hX (tgt := 67) (by decide) dX0_blow_57 (fun c57 => ?_) (fun c57 => ?_)
                  · refine G.we (ws' := [(a 0, avO a ((it (av_blS2 (av_any q) t) (m + 1) (it (av_blS (av_any q)) t q)).1) ((it (av_blS2 (av_any q) t) (m + 1) (it (av_blS (av_any q)) t q)).2.1)), (a 1, arI E 12 ((it (av_blS2 (av_any q) t) (m + 1) (it (av_blS (av_any q)) t q)).2.2.1)), (a 2, arI E 12 ((it (av_blS2 (av_any q) t) (m + 1) (it (av_blS (av_any q)) t q)).2.2.2.1)), (a 3, arI E 12 ((it (av_blS2 (av_any q) t) (m + 1) (it (av_blS (av_any q)) t q)).2.2.2.2.1)), (a 4, arI E 96 ((it (av_blS2 (av_any q) t) (m + 1) (it (av_blS (av_any q)) t q)).2.2.2.2.2))]) (by simp only [it_s, av_blS2, c15, c24, c37, c47, c57, decide_true, decide_false, Bool.true_and, Bool.false_and, Bool.not_true, Bool.not_false, ↓reduceIte, Bool.false_eq_true]) ?_
                    exact J67
                  · refine G.aload_n hX 0 rfl dX0_blow_60 ?_
                    refine G.iload_n hX 3 rfl dX0_blow_61 ?_
                    refine G.iload hX 4 rfl dX0_blow_62 ?_
                    refine G.vv hX (As := [.int (nI t), .int (nI m)]) (st := []) (wr := []) (wf := [(a 0, avO a ((av_learn (it (av_blS2 (av_any q) t) m (it (av_blS (av_any q)) t q)) t m).1) ((av_learn (it (av_blS2 (av_any q) t) m (it (av_blS (av_any q)) t q)) t m).2.1)), (a 1, arI E 12 ((av_learn (it (av_blS2 (av_any q) t) m (it (av_blS (av_any q)) t q)) t m).2.2.1)), (a 2, arI E 12 ((av_learn (it (av_blS2 (av_any q) t) m (it (av_blS (av_any q)) t q)) t m).2.2.2.1)), (a 3, arI E 12 ((av_learn (it (av_blS2 (av_any q) t) m (it (av_blS (av_any q)) t q)) t m).2.2.2.2.1)), (a 4, arI E 96 ((av_learn (it (av_blS2 (av_any q) t) m (it (av_blS (av_any q)) t q)) t m).2.2.2.2.2))]) (q0 := 0) (ci := 0) rfl rfl (c_X0_learn _ E (q := it (av_blS2 (av_any q) t) m (it (av_blS (av_any q)) t q)) (t := t) (m := m) (a := a) (h1 := by omega) (h2 := by omega)) gX0_blow_X0_learn cp_X0_learn (by decide) [0, 1, 2, 3, 4] [] [0, 1, 2, 3, 4] ⟨rfl, rfl, by decide, rfl⟩ rfl rfl (Nat.le_of_ble_eq_true rfl) dX0_blow_64 ?_
                    refine G.we (ws' := [(a 0, avO a ((it (av_blS2 (av_any q) t) (m + 1) (it (av_blS (av_any q)) t q)).1) ((it (av_blS2 (av_any q) t) (m + 1) (it (av_blS (av_any q)) t q)).2.1)), (a 1, arI E 12 ((it (av_blS2 (av_any q) t) (m + 1) (it (av_blS (av_any q)) t q)).2.2.1)), (a 2, arI E 12 ((it (av_blS2 (av_any q) t) (m + 1) (it (av_blS (av_any q)) t q)).2.2.2.1)), (a 3, arI E 12 ((it (av_blS2 (av_any q) t) (m + 1) (it (av_blS (av_any q)) t q)).2.2.2.2.1)), (a 4, arI E 96 ((it (av_blS2 (av_any q) t) (m + 1) (it (av_blS (av_any q)) t q)).2.2.2.2.2))]) (by simp only [it_s, av_blS2, c15, c24, c37, c47, c57, decide_true, decide_false, Bool.true_and, Bool.false_and, Bool.not_true, Bool.not_false, ↓reduceIte, Bool.false_eq_true]) ?_
                    exact J67
          refine G.lvp (lv' := [(0, .ref (a 0)), (1, .int (av_all q)), (2, .int (av_any q)), (3, .int (nI t)), (4, .int 0)]) [1, 2, 3, 4, 0] rfl ?_
          refine G.lve (lv' := [(0, .ref (a 0)), (1, .int (av_all q)), (2, .int (av_any q)), (3, .int (nI t)), (4, .int (nI 0))]) (by rfl) ?_
          refine G.we (ws' := [(a 0, avO a ((it (av_blS2 (av_any q) t) 0 (it (av_blS (av_any q)) t q)).1) ((it (av_blS2 (av_any q) t) 0 (it (av_blS (av_any q)) t q)).2.1)), (a 1, arI E 12 ((it (av_blS2 (av_any q) t) 0 (it (av_blS (av_any q)) t q)).2.2.1)), (a 2, arI E 12 ((it (av_blS2 (av_any q) t) 0 (it (av_blS (av_any q)) t q)).2.2.2.1)), (a 3, arI E 12 ((it (av_blS2 (av_any q) t) 0 (it (av_blS (av_any q)) t q)).2.2.2.2.1)), (a 4, arI E 96 ((it (av_blS2 (av_any q) t) 0 (it (av_blS (av_any q)) t q)).2.2.2.2.2))]) (by rfl) ?_
          exact L33 9 0 (by omega) (by omega)
        · refine G.goto hX (tgt := 73) (by decide) dX0_blow_27 ?_
          refine G.we (ws' := [(a 0, avO a ((it (av_blS (av_any q)) (t + 1) q).1) ((it (av_blS (av_any q)) (t + 1) q).2.1)), (a 1, arI E 12 ((it (av_blS (av_any q)) (t + 1) q).2.2.1)), (a 2, arI E 12 ((it (av_blS (av_any q)) (t + 1) q).2.2.2.1)), (a 3, arI E 12 ((it (av_blS (av_any q)) (t + 1) q).2.2.2.2.1)), (a 4, arI E 96 ((it (av_blS (av_any q)) (t + 1) q).2.2.2.2.2))]) (by first | (simp only [it_s, av_blS, c15, c24, ↓reduceIte, Bool.false_eq_true]; done) | (obtain rfl : m = 8 := (by omega); simp only [it_s, av_blS, c15, c24, ↓reduceIte]; done)) ?_
          exact J73
  refine G.lvp (lv' := [(0, .ref (a 0)), (1, .int (av_all q)), (2, .int (av_any q)), (3, .int 0)]) [3, 2, 1, 0] rfl ?_
  refine G.lve (lv' := [(0, .ref (a 0)), (1, .int (av_all q)), (2, .int (av_any q)), (3, .int (nI 0))]) (by rfl) ?_
  refine G.we (ws' := [(a 0, avO a ((it (av_blS (av_any q)) 0 q).1) ((it (av_blS (av_any q)) 0 q).2.1)), (a 1, arI E 12 ((it (av_blS (av_any q)) 0 q).2.2.1)), (a 2, arI E 12 ((it (av_blS (av_any q)) 0 q).2.2.2.1)), (a 3, arI E 12 ((it (av_blS (av_any q)) 0 q).2.2.2.2.1)), (a 4, arI E 96 ((it (av_blS (av_any q)) 0 q).2.2.2.2.2))]) (by rfl) ?_
  exact L12 13 0 (by omega) (by omega)
abbrev rmX0_goHome : Room := { frames := 4, cells := 0, slots := 0, locals := 96 }
theorem cp_X0_goHome : CP yX0_goHome RX0 wsX0_goHome 3 1 rmX0_goHome := ⟨⟨_, _, _, rfl⟩, rfl, rfl, by decide +kernel⟩
set_option maxHeartbeats 4000000 in
set_option maxRecDepth 100000 in
theorem c_X0_goHome (l : Launch) (E : EV) (q : AV) (m : Nat) (a : Nat → Nat) (h1 : m < 8) : CI l yX0_goHome wsX0_goHome rmX0_goHome E [.ref (a 0), .int (nI m)] [(a 0, avO a q.1 q.2.1), (a 1, arI E 12 q.2.2.1), (a 2, arI E 12 q.2.2.2.1), (a 3, arI E 12 q.2.2.2.2.1), (a 4, arI E 96 q.2.2.2.2.2)] [(a 0, avO a ((av_goS q m).1) ((av_goS q m).2.1)), (a 1, arI E 12 ((av_goS q m).2.2.1)), (a 2, arI E 12 ((av_goS q m).2.2.2.1)), (a 3, arI E 12 ((av_goS q m).2.2.2.2.1)), (a 4, arI E 96 ((av_goS q m).2.2.2.2.2))] (nI (av_gh q m)) := by
  refine CI.of (own := RX0) (cc := cX0_goHome) (nL := 3) (rt := (some .int)) (by decide) rfl rfl (Nat.le_of_ble_eq_true rfl) (fun X hX hQ => ?_)
  show G E X 3 0 [(0, .ref (a 0)), (1, .int (nI m))] [] [(a 0, avO a q.1 q.2.1), (a 1, arI E 12 q.2.2.1), (a 2, arI E 12 q.2.2.2.1), (a 3, arI E 12 q.2.2.2.2.1), (a 4, arI E 96 q.2.2.2.2.2)]
  refine G.iconst hX (v := 0) (by decide) dX0_goHome_0 ?_
  refine G.istore_n hX (lv' := [(2, .int 0), (0, .ref (a 0)), (1, .int (nI m))]) rfl (by decide) rfl dX0_goHome_1 ?_
  have L2 : ∀ (n : Nat) (j : Nat), j ≤ 201 → av_gh q m = ff (av_hmP q m) (201 - j) j → 202 ≤ j + n → G E X 3 2 [(0, .ref (a 0)), (1, .int (nI m)), (2, .int (nI j))] [] [(a 0, avO a ((av_ys (1 <<< (nI m &&& 31)) j q).1) ((av_ys (1 <<< (nI m &&& 31)) j q).2.1)), (a 1, arI E 12 ((av_ys (1 <<< (nI m &&& 31)) j q).2.2.1)), (a 2, arI E 12 ((av_ys (1 <<< (nI m &&& 31)) j q).2.2.2.1)), (a 3, arI E 12 ((av_ys (1 <<< (nI m &&& 31)) j q).2.2.2.2.1)), (a 4, arI E 96 ((av_ys (1 <<< (nI m &&& 31)) j q).2.2.2.2.2))] := by
    intro n
    induction n with
    | zero => intro j hl2_0 hl2_1 hl2_2; exact absurd hl2_2 (by omega)
    | succ n ih2 =>
      intro j hl2_0 hl2_1 hl2_2
      refine G.iload_n hX 2 rfl dX0_goHome_2 ?_
      refine G.sipush hX (v := 200) (by decide) dX0_goHome_3 ?_
      refine G.n_gt hX (a := j) (b := 200) (tgt := 50) (by omega) (by omega) (by decide) dX0_goHome_6 (fun c6 => ?_) (fun c6 => ?_)
      · refine G.sipush hX (v := 201) (by decide) dX0_goHome_50 ?_
        exact G.iret hX hQ dX0_goHome_53 (by have e9 : av_gh q m = j := (by first | (rw [hl2_1]; exact ff_t (by omega) (by simp [av_hmP, av_hm, c6])) | (obtain rfl : j = 201 := (by omega); rw [hl2_1]; rfl)); rw [e9]; first | done | (obtain rfl : j = 201 := (by omega); rfl)) (by have e9 : av_gh q m = j := (by first | (rw [hl2_1]; exact ff_t (by omega) (by simp [av_hmP, av_hm, c6])) | (obtain rfl : j = 201 := (by omega); rw [hl2_1]; rfl)); rw [av_goS, e9])
      · refine G.aload_n hX 0 rfl dX0_goHome_9 ?_
        refine G.iconst hX (v := 5) (by decide) dX0_goHome_10 ?_
        refine G.iconst hX (v := 0) (by decide) dX0_goHome_11 ?_
        refine G.sni hX (As := [.int 5, .int 0]) (st := [.ref (a 0)]) (wr := [(a 0, avO a ((av_ys (1 <<< (nI m &&& 31)) j q).1) ((av_ys (1 <<< (nI m &&& 31)) j q).2.1)), (a 1, arI E 12 ((av_ys (1 <<< (nI m &&& 31)) j q).2.2.1)), (a 2, arI E 12 ((av_ys (1 <<< (nI m &&& 31)) j q).2.2.2.1)), (a 3, arI E 12 ((av_ys (1 <<< (nI m &&& 31)) j q).2.2.2.2.1)), (a 4, arI E 96 ((av_ys (1 <<< (nI m &&& 31)) j q).2.2.2.2.2))]) (wf := [(a 0, avO a ((av_ys (1 <<< (nI m &&& 31)) j q).1) ((av_ys (1 <<< (nI m &&& 31)) j q).2.1)), (a 1, arI E 12 ((av_ys (1 <<< (nI m &&& 31)) j q).2.2.1)), (a 2, arI E 12 ((av_ys (1 <<< (nI m &&& 31)) j q).2.2.2.1)), (a 3, arI E 12 ((av_ys (1 <<< (nI m &&& 31)) j q).2.2.2.2.1)), (a 4, arI E 96 ((av_ys (1 <<< (nI m &&& 31)) j q).2.2.2.2.2))]) (c_X3_treeAt _ E (u := 5) (v := 0) ) gX0_goHome_X3_treeAt_n43 (by decide +kernel) (by decide +kernel) (hX.2.2.2.2.2.1.2.1) cp_X3_treeAt (by decide) [] [0, 1, 2, 3, 4] [0, 1, 2, 3, 4] ⟨rfl, rfl, by decide, rfl⟩ rfl rfl (Nat.le_of_ble_eq_true rfl) dX0_goHome_12 ?_
        refine G.ie (y := nI (2 * 5)) rfl ?_
        refine G.iload_n hX 1 rfl dX0_goHome_15 ?_
        refine G.vi hX (As := [.int (nI (2 * 5)), .int (nI m)]) (st := []) (wr := []) (wf := [(a 0, avO a ((av_ys (1 <<< (nI m &&& 31)) j q).1) ((av_ys (1 <<< (nI m &&& 31)) j q).2.1)), (a 1, arI E 12 ((av_ys (1 <<< (nI m &&& 31)) j q).2.2.1)), (a 2, arI E 12 ((av_ys (1 <<< (nI m &&& 31)) j q).2.2.2.1)), (a 3, arI E 12 ((av_ys (1 <<< (nI m &&& 31)) j q).2.2.2.2.1)), (a 4, arI E 96 ((av_ys (1 <<< (nI m &&& 31)) j q).2.2.2.2.2))]) (q0 := 0) (ci := 0) rfl rfl (c_X0_knows _ E (q := av_ys (1 <<< (nI m &&& 31)) j q) (t := 2 * 5) (m := m) (a := a) (h1 := by omega) (h2 := by omega)) gX0_goHome_X0_knows cp_X0_knows (by decide) [0, 1, 2, 3, 4] [] [0, 1, 2, 3, 4] ⟨rfl, rfl, by decide, rfl⟩ rfl rfl (Nat.le_of_ble_eq_true rfl) dX0_goHome_16 ?_
        refine G.b_ne hX (tgt := 35) (by decide) dX0_goHome_19 (fun c19 => ?_) (fun c19 => ?_)
        · refine G.iload_n hX 2 rfl dX0_goHome_35 ?_
          exact G.iret hX hQ dX0_goHome_36 (by have e9 : av_gh q m = j := (by first | (rw [hl2_1]; exact ff_t (by omega) (by simp [av_hmP, av_hm, c6, c19])) | (obtain rfl : j = 201 := (by omega); rw [hl2_1]; rfl)); rw [e9]; first | done | (obtain rfl : j = 201 := (by omega); rfl)) (by have e9 : av_gh q m = j := (by first | (rw [hl2_1]; exact ff_t (by omega) (by simp [av_hmP, av_hm, c6, c19])) | (obtain rfl : j = 201 := (by omega); rw [hl2_1]; rfl)); rw [av_goS, e9])
        · refine G.aload_n hX 0 rfl dX0_goHome_22 ?_
          refine G.iconst hX (v := 5) (by decide) dX0_goHome_23 ?_
          refine G.iconst hX (v := 1) (by decide) dX0_goHome_24 ?_
          refine G.sni hX (As := [.int 5, .int 1]) (st := [.ref (a 0)]) (wr := [(a 0, avO a ((av_ys (1 <<< (nI m &&& 31)) j q).1) ((av_ys (1 <<< (nI m &&& 31)) j q).2.1)), (a 1, arI E 12 ((av_ys (1 <<< (nI m &&& 31)) j q).2.2.1)), (a 2, arI E 12 ((av_ys (1 <<< (nI m &&& 31)) j q).2.2.2.1)), (a 3, arI E 12 ((av_ys (1 <<< (nI m &&& 31)) j q).2.2.2.2.1)), (a 4, arI E 96 ((av_ys (1 <<< (nI m &&& 31)) j q).2.2.2.2.2))]) (wf := [(a 0, avO a ((av_ys (1 <<< (nI m &&& 31)) j q).1) ((av_ys (1 <<< (nI m &&& 31)) j q).2.1)), (a 1, arI E 12 ((av_ys (1 <<< (nI m &&& 31)) j q).2.2.1)), (a 2, arI E 12 ((av_ys (1 <<< (nI m &&& 31)) j q).2.2.2.1)), (a 3, arI E 12 ((av_ys (1 <<< (nI m &&& 31)) j q).2.2.2.2.1)), (a 4, arI E 96 ((av_ys (1 <<< (nI m &&& 31)) j q).2.2.2.2.2))]) (c_X3_treeAt _ E (u := 5) (v := 1) ) gX0_goHome_X3_treeAt_n43 (by decide +kernel) (by decide +kernel) (hX.2.2.2.2.2.1.2.1) cp_X3_treeAt (by decide) [] [0, 1, 2, 3, 4] [0, 1, 2, 3, 4] ⟨rfl, rfl, by decide, rfl⟩ rfl rfl (Nat.le_of_ble_eq_true rfl) dX0_goHome_25 ?_
          refine G.iload_n hX 1 rfl dX0_goHome_28 ?_
          refine G.vi hX (As := [.int (nI (2 * 5 + 1)), .int (nI m)]) (st := []) (wr := []) (wf := [(a 0, avO a ((av_ys (1 <<< (nI m &&& 31)) j q).1) ((av_ys (1 <<< (nI m &&& 31)) j q).2.1)), (a 1, arI E 12 ((av_ys (1 <<< (nI m &&& 31)) j q).2.2.1)), (a 2, arI E 12 ((av_ys (1 <<< (nI m &&& 31)) j q).2.2.2.1)), (a 3, arI E 12 ((av_ys (1 <<< (nI m &&& 31)) j q).2.2.2.2.1)), (a 4, arI E 96 ((av_ys (1 <<< (nI m &&& 31)) j q).2.2.2.2.2))]) (q0 := 0) (ci := 0) rfl rfl (c_X0_knows _ E (q := av_ys (1 <<< (nI m &&& 31)) j q) (t := 2 * 5 + 1) (m := m) (a := a) (h1 := by omega) (h2 := by omega)) gX0_goHome_X0_knows cp_X0_knows (by decide) [0, 1, 2, 3, 4] [] [0, 1, 2, 3, 4] ⟨rfl, rfl, by decide, rfl⟩ rfl rfl (Nat.le_of_ble_eq_true rfl) dX0_goHome_29 ?_
          refine G.b_eq hX (tgt := 37) (by decide) dX0_goHome_32 (fun c32 => ?_) (fun c32 => ?_)
          · refine G.aload_n hX 0 rfl dX0_goHome_37 ?_
            refine G.iconst hX (v := 1) (by decide) dX0_goHome_38 ?_
            refine G.iload_n hX 1 rfl dX0_goHome_39 ?_
            refine G.ishl hX dX0_goHome_40 ?_
            refine G.vv hX (As := [.int (1 <<< ((nI m) &&& 31))]) (st := []) (wr := []) (wf := [(a 0, avO a ((av_yr (1 <<< ((nI m) &&& 31)) (av_ys (1 <<< (nI m &&& 31)) j q)).1) ((av_yr (1 <<< ((nI m) &&& 31)) (av_ys (1 <<< (nI m &&& 31)) j q)).2.1)), (a 1, arI E 12 ((av_yr (1 <<< ((nI m) &&& 31)) (av_ys (1 <<< (nI m &&& 31)) j q)).2.2.1)), (a 2, arI E 12 ((av_yr (1 <<< ((nI m) &&& 31)) (av_ys (1 <<< (nI m &&& 31)) j q)).2.2.2.1)), (a 3, arI E 12 ((av_yr (1 <<< ((nI m) &&& 31)) (av_ys (1 <<< (nI m &&& 31)) j q)).2.2.2.2.1)), (a 4, arI E 96 ((av_yr (1 <<< ((nI m) &&& 31)) (av_ys (1 <<< (nI m &&& 31)) j q)).2.2.2.2.2))]) (q0 := 0) (ci := 0) rfl rfl (c_X0_passYear _ E (q := av_ys (1 <<< (nI m &&& 31)) j q) (mk := 1 <<< ((nI m) &&& 31)) (a := a) ) gX0_goHome_X0_passYear cp_X0_passYear (by decide) [0, 1, 2, 3, 4] [] [0, 1, 2, 3, 4] ⟨rfl, rfl, by decide, rfl⟩ rfl rfl (Nat.le_of_ble_eq_true rfl) dX0_goHome_41 ?_
            refine G.iinc hX (n := 1) (lv' := [(2, .int (nI (j + 1))), (0, .ref (a 0)), (1, .int (nI m))]) 2 rfl (inc_nI j 1 rfl) (by decide) rfl dX0_goHome_44 ?_
            refine G.goto hX (tgt := 2) (by decide) dX0_goHome_47 ?_
            refine G.lvp (lv' := [(0, .ref (a 0)), (1, .int (nI m)), (2, .int (nI (j + 1)))]) [1, 2, 0] rfl ?_
            refine G.lve (lv' := [(0, .ref (a 0)), (1, .int (nI m)), (2, .int (nI ((j + 1))))]) (by rfl) ?_
            refine G.we (ws' := [(a 0, avO a ((av_ys (1 <<< (nI m &&& 31)) (j + 1) q).1) ((av_ys (1 <<< (nI m &&& 31)) (j + 1) q).2.1)), (a 1, arI E 12 ((av_ys (1 <<< (nI m &&& 31)) (j + 1) q).2.2.1)), (a 2, arI E 12 ((av_ys (1 <<< (nI m &&& 31)) (j + 1) q).2.2.2.1)), (a 3, arI E 12 ((av_ys (1 <<< (nI m &&& 31)) (j + 1) q).2.2.2.2.1)), (a 4, arI E 96 ((av_ys (1 <<< (nI m &&& 31)) (j + 1) q).2.2.2.2.2))]) (by rfl) ?_
            exact ih2 (j + 1) (by omega) (by rw [hl2_1]; exact ff_f (by omega) (by simp [av_hmP, av_hm, c6, c19, c32])) (by omega)
          · refine G.iload_n hX 2 rfl dX0_goHome_35 ?_
            exact G.iret hX hQ dX0_goHome_36 (by have e9 : av_gh q m = j := (by first | (rw [hl2_1]; exact ff_t (by omega) (by simp [av_hmP, av_hm, c6, c19, c32])) | (obtain rfl : j = 201 := (by omega); rw [hl2_1]; rfl)); rw [e9]; first | done | (obtain rfl : j = 201 := (by omega); rfl)) (by have e9 : av_gh q m = j := (by first | (rw [hl2_1]; exact ff_t (by omega) (by simp [av_hmP, av_hm, c6, c19, c32])) | (obtain rfl : j = 201 := (by omega); rw [hl2_1]; rfl)); rw [av_goS, e9])
  refine G.lvp (lv' := [(0, .ref (a 0)), (1, .int (nI m)), (2, .int 0)]) [1, 2, 0] rfl ?_
  refine G.lve (lv' := [(0, .ref (a 0)), (1, .int (nI m)), (2, .int (nI 0))]) (by rfl) ?_
  refine G.we (ws' := [(a 0, avO a ((av_ys (1 <<< (nI m &&& 31)) 0 q).1) ((av_ys (1 <<< (nI m &&& 31)) 0 q).2.1)), (a 1, arI E 12 ((av_ys (1 <<< (nI m &&& 31)) 0 q).2.2.1)), (a 2, arI E 12 ((av_ys (1 <<< (nI m &&& 31)) 0 q).2.2.2.1)), (a 3, arI E 12 ((av_ys (1 <<< (nI m &&& 31)) 0 q).2.2.2.2.1)), (a 4, arI E 96 ((av_ys (1 <<< (nI m &&& 31)) 0 q).2.2.2.2.2))]) (by rfl) ?_
  exact L2 202 0 (by omega) rfl (by omega)
