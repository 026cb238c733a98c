/-! ===== constructors ===== -/
def AV0 : AV := (0, 63, fun _ => 0, fun _ => 40, fun _ => 0, fun _ => 0)
def avC (E : EV) (a : Nat → Nat) (q : AV) : va_W := [(a 0, avO a q.1 q.2.1), (a 1, arI E 12 q.2.2.1), (a 2, arI E 12 q.2.2.2.1), (a 3, arI E 12 q.2.2.2.2.1), (a 4, arI E 96 q.2.2.2.2.2)]
theorem shF_up {h : Nat → Nat → Nat} : va_up (va_up (va_up (va_up (fun _ => none) 0 (some (h 0 0))) 1 (some (h 1 0))) 2 (some (h 2 0))) 3 (some (h 3 0)) = shF h := by
  funext j
  unfold va_up shF
  rcases Nat.lt_or_ge j 4 with q | q
  · rcases (show j = 0 ∨ j = 1 ∨ j = 2 ∨ j = 3 by omega) with rfl | rfl | rfl | rfl <;> rfl
  · rw [if_neg (by omega), if_neg (by omega), if_neg (by omega), if_neg (by omega), if_neg (by omega)]
theorem oi_in {wy : List Cond} {c0 : Cond} {r : List Cond} (h : wy = c0 :: r) {i : Nat} {x : Cond} (hx : r[i]? = some x) : x ∈ wy := by rw [h]; exact List.mem_cons_of_mem _ (List.mem_of_getElem? hx)
abbrev rmX0_init : Room := { frames := 1, cells := 4, slots := 132, locals := 23 }
theorem inc_X0_init : ∀ w ∈ u_ws RX0 TX0 6, w ∈ wsX0_init := by decide +kernel
set_option maxHeartbeats 4000000 in
set_option maxRecDepth 100000 in
theorem c_X0_init (l : Launch) (E : EV) (a : Nat) : CN l yX0_init wsX0_init rmX0_init E [.ref a] [(a, .inr (0, [.int 0, .int 0, .null, .null, .null, .null]))] 4 132 (fun u => u 0 0 = a) (fun u => avC E (u 0) AV0) := by
  refine CN.of (own := RX0) (cc := cX0_init) (nL := 1) (by decide) rfl rfl rfl (Nat.le_of_ble_eq_true rfl) (fun X hX hxk hin hQ => ?_)
  show GN 0 0 E X 1 0 [(0, .ref a)] [] [(a, .inr (0, [.int 0, .int 0, .null, .null, .null, .null]))]
  refine GN.aload_n hX 0 rfl dX0_init_0 ?_
  refine GN.objI hX (by decide +kernel) (by decide +kernel) (oi_in (i := 2) rfl rfl) (by decide) (by decide) dX0_init_1 ?_
  refine GN.aload_n hX 0 rfl dX0_init_4 ?_
  refine GN.iconst hX (v := 0) (by decide) dX0_init_5 ?_
  refine GN.put hX (ws' := [(a, .inr (0, [.int 0, .int 0, .null, .null, .null, .null]))]) inc_X0_init tyX0 tyX0_ok nmX0 0 rfl rfl 0 (by decide) (by decide +kernel) rfl (tyX0_ok 0 (by decide)) rfl rfl (Nat.le_of_ble_eq_true rfl) rfl rfl dX0_init_6 ?_
  refine GN.aload_n hX 0 rfl dX0_init_9 ?_
  refine GN.bipush hX (v := 63) (by decide) dX0_init_10 ?_
  refine GN.put hX (ws' := [(a, .inr (0, [.int 0, .int 63, .null, .null, .null, .null]))]) inc_X0_init tyX0 tyX0_ok nmX0 0 rfl rfl 1 (by decide) (by decide +kernel) rfl (tyX0_ok 1 (by decide)) rfl rfl (Nat.le_of_ble_eq_true rfl) rfl rfl dX0_init_12 ?_
  refine GN.aload_n hX 0 rfl dX0_init_15 ?_
  refine GN.bipush hX (v := 12) (by decide) dX0_init_16 ?_
  refine GN.newI hX (n := 12) (by decide +kernel) (by decide) (by decide) (by decide) (by decide) dX0_init_18 (fun q1 => ?_)
  refine GN.putF hX hin (ws' := [(a, .inr (0, [.int 0, .int 63, .ref q1, .null, .null, .null])), (q1, arI E 12 (fun _ => 0))]) inc_X0_init tyX0 tyX0_ok nmX0 0 rfl rfl 2 (by decide) (by decide +kernel) rfl rfl (tyX0_ok 2 (by decide)) rfl rfl (Nat.le_of_ble_eq_true rfl) rfl rfl dX0_init_20 ?_
  refine GN.aload_n hX 0 rfl dX0_init_23 ?_
  refine GN.bipush hX (v := 12) (by decide) dX0_init_24 ?_
  refine GN.newI hX (n := 12) (by decide +kernel) (by decide) (by decide) (by decide) (by decide) dX0_init_26 (fun q2 => ?_)
  refine GN.putF hX hin (ws' := [(a, .inr (0, [.int 0, .int 63, .ref q1, .ref q2, .null, .null])), (q1, arI E 12 (fun _ => 0)), (q2, arI E 12 (fun _ => 0))]) inc_X0_init tyX0 tyX0_ok nmX0 0 rfl rfl 3 (by decide) (by decide +kernel) rfl rfl (tyX0_ok 3 (by decide)) rfl rfl (Nat.le_of_ble_eq_true rfl) rfl rfl dX0_init_28 ?_
  refine GN.aload_n hX 0 rfl dX0_init_31 ?_
  refine GN.bipush hX (v := 12) (by decide) dX0_init_32 ?_
  refine GN.newI hX (n := 12) (by decide +kernel) (by decide) (by decide) (by decide) (by decide) dX0_init_34 (fun q3 => ?_)
  refine GN.putF hX hin (ws' := [(a, .inr (0, [.int 0, .int 63, .ref q1, .ref q2, .ref q3, .null])), (q1, arI E 12 (fun _ => 0)), (q2, arI E 12 (fun _ => 0)), (q3, arI E 12 (fun _ => 0))]) inc_X0_init tyX0 tyX0_ok nmX0 0 rfl rfl 4 (by decide) (by decide +kernel) rfl rfl (tyX0_ok 4 (by decide)) rfl rfl (Nat.le_of_ble_eq_true rfl) rfl rfl dX0_init_36 ?_
  refine GN.aload_n hX 0 rfl dX0_init_39 ?_
  refine GN.bipush hX (v := 96) (by decide) dX0_init_40 ?_
  refine GN.newI hX (n := 96) (by decide +kernel) (by decide) (by decide) (by decide) (by decide) dX0_init_42 (fun q4 => ?_)
  refine GN.putF hX hin (ws' := [(a, .inr (0, [.int 0, .int 63, .ref q1, .ref q2, .ref q3, .ref q4])), (q1, arI E 12 (fun _ => 0)), (q2, arI E 12 (fun _ => 0)), (q3, arI E 12 (fun _ => 0)), (q4, arI E 96 (fun _ => 0))]) inc_X0_init tyX0 tyX0_ok nmX0 0 rfl rfl 5 (by decide) (by decide +kernel) rfl rfl (tyX0_ok 5 (by decide)) rfl rfl (Nat.le_of_ble_eq_true rfl) rfl rfl dX0_init_44 ?_
  refine GN.aload_n hX 0 rfl dX0_init_47 ?_
  refine GN.get hX inc_X0_init 0 rfl rfl 3 (by decide) (by decide +kernel) rfl dX0_init_48 ?_
  refine GN.bipush hX (v := 40) (by decide) dX0_init_51 ?_
  refine GN.sv hX (As := [.ref q2, .int 40]) (st := []) (wr := [(a, .inr (0, [.int 0, .int 63, .ref q1, .ref q2, .ref q3, .ref q4])), (q1, arI E 12 (fun _ => 0)), (q3, arI E 12 (fun _ => 0)), (q4, arI E 96 (fun _ => 0))]) (wf := [(a, .inr (0, [.int 0, .int 63, .ref q1, .ref q2, .ref q3, .ref q4])), (q1, arI E 12 (fun _ => 0)), (q2, arI E 12 (fun _ => 40)), (q3, arI E 12 (fun _ => 0)), (q4, arI E 96 (fun _ => 0))]) (c_J7_fill_53178 _ E (aa := q2) (nn := 12) (v := 40) (f := fun _ => 0) (h1 := by omega)) gX0_init_J7_fill_53178 cp_J7_fill_53178 ⟨by decide, by decide⟩ (by decide) [2] [0, 1, 3, 4] [0, 1, 4, 2, 3] ⟨rfl, rfl, by decide, rfl⟩ rfl rfl (Nat.le_of_ble_eq_true rfl) dX0_init_53 ?_
  refine GN.wide (kc' := 4) (ks' := 132) (by decide) (by decide) ?_
  exact GN.vretN hX hQ (fun _ j => match j with | 0 => a | 1 => q1 | 2 => q2 | 3 => q3 | _ => q4) rfl dX0_init_56 rfl
abbrev rmX1_init : Room := { frames := 1, cells := 1, slots := 40, locals := 12 }
theorem inc_X1_init : ∀ w ∈ u_ws RX1 TX1 3, w ∈ wsX1_init := by decide +kernel
set_option maxHeartbeats 4000000 in
set_option maxRecDepth 100000 in
theorem c_X1_init (l : Launch) (E : EV) (a : Nat) : CN l yX1_init wsX1_init rmX1_init E [.ref a] [(a, .inr (1, [.int 0, .int 0, .null]))] 1 40 (fun u => u 0 0 = a) (fun u => [(u 0 0, shO (u 0) 0 0), (u 0 1, arJ E 40 (fun _ => 0))]) := by
  refine CN.of (own := RX1) (cc := cX1_init) (nL := 1) (by decide) rfl rfl rfl (Nat.le_of_ble_eq_true rfl) (fun X hX hxk hin hQ => ?_)
  show GN 0 0 E X 1 0 [(0, .ref a)] [] [(a, .inr (1, [.int 0, .int 0, .null]))]
  refine GN.aload_n hX 0 rfl dX1_init_0 ?_
  refine GN.objI hX (by decide +kernel) (by decide +kernel) (oi_in (i := 2) rfl rfl) (by decide) (by decide) dX1_init_1 ?_
  refine GN.aload_n hX 0 rfl dX1_init_4 ?_
  refine GN.iconst hX (v := 0) (by decide) dX1_init_5 ?_
  refine GN.put hX (ws' := [(a, .inr (1, [.int 0, .int 0, .null]))]) inc_X1_init tyX1 tyX1_ok nmX1 0 rfl rfl 0 (by decide) (by decide +kernel) rfl (tyX1_ok 0 (by decide)) rfl rfl (Nat.le_of_ble_eq_true rfl) rfl rfl dX1_init_6 ?_
  refine GN.aload_n hX 0 rfl dX1_init_9 ?_
  refine GN.iconst hX (v := 0) (by decide) dX1_init_10 ?_
  refine GN.put hX (ws' := [(a, .inr (1, [.int 0, .int 0, .null]))]) inc_X1_init tyX1 tyX1_ok nmX1 0 rfl rfl 1 (by decide) (by decide +kernel) rfl (tyX1_ok 1 (by decide)) rfl rfl (Nat.le_of_ble_eq_true rfl) rfl rfl dX1_init_11 ?_
  refine GN.aload_n hX 0 rfl dX1_init_14 ?_
  refine GN.bipush hX (v := 40) (by decide) dX1_init_15 ?_
  refine GN.newJ hX (n := 40) (by decide +kernel) (by decide) (by decide) (by decide) (by decide) dX1_init_17 (fun q1 => ?_)
  refine GN.putF hX hin (ws' := [(a, .inr (1, [.int 0, .int 0, .ref q1])), (q1, arJ E 40 (fun _ => 0))]) inc_X1_init tyX1 tyX1_ok nmX1 0 rfl rfl 2 (by decide) (by decide +kernel) rfl rfl (tyX1_ok 2 (by decide)) rfl rfl (Nat.le_of_ble_eq_true rfl) rfl rfl dX1_init_19 ?_
  refine GN.wide (kc' := 1) (ks' := 40) (by decide) (by decide) ?_
  exact GN.vretN hX hQ (fun _ j => match j with | 0 => a | _ => q1) rfl dX1_init_22 rfl
abbrev rmX2_init : Room := { frames := 1, cells := 1, slots := 120, locals := 12 }
theorem inc_X2_init : ∀ w ∈ u_ws RX2 TX2 6, w ∈ wsX2_init := by decide +kernel
set_option maxHeartbeats 4000000 in
set_option maxRecDepth 100000 in
theorem c_X2_init (l : Launch) (E : EV) (a : Nat) : CN l yX2_init wsX2_init rmX2_init E [.ref a] [(a, .inr (2, [.int 0, .null, .int 0, .int 0, .int 0, .int 0]))] 1 120 (fun u => u 0 0 = a) (fun u => [(u 0 0, txO (u 0) 0 0 0 0 0), (u 0 1, arB E 120 (fun _ => 0))]) := by
  refine CN.of (own := RX2) (cc := cX2_init) (nL := 1) (by decide) rfl rfl rfl (Nat.le_of_ble_eq_true rfl) (fun X hX hxk hin hQ => ?_)
  show GN 0 0 E X 1 0 [(0, .ref a)] [] [(a, .inr (2, [.int 0, .null, .int 0, .int 0, .int 0, .int 0]))]
  refine GN.aload_n hX 0 rfl dX2_init_0 ?_
  refine GN.objI hX (by decide +kernel) (by decide +kernel) (oi_in (i := 2) rfl rfl) (by decide) (by decide) dX2_init_1 ?_
  refine GN.aload_n hX 0 rfl dX2_init_4 ?_
  refine GN.iconst hX (v := 0) (by decide) dX2_init_5 ?_
  refine GN.put hX (ws' := [(a, .inr (2, [.int 0, .null, .int 0, .int 0, .int 0, .int 0]))]) inc_X2_init tyX2 tyX2_ok nmX2 0 rfl rfl 0 (by decide) (by decide +kernel) rfl (tyX2_ok 0 (by decide)) rfl rfl (Nat.le_of_ble_eq_true rfl) rfl rfl dX2_init_6 ?_
  refine GN.aload_n hX 0 rfl dX2_init_9 ?_
  refine GN.bipush hX (v := 120) (by decide) dX2_init_10 ?_
  refine GN.newB hX (n := 120) (by decide +kernel) (by decide) (by decide) (by decide) (by decide) dX2_init_12 (fun q1 => ?_)
  refine GN.putF hX hin (ws' := [(a, .inr (2, [.int 0, .ref q1, .int 0, .int 0, .int 0, .int 0])), (q1, arB E 120 (fun _ => 0))]) inc_X2_init tyX2 tyX2_ok nmX2 0 rfl rfl 1 (by decide) (by decide +kernel) rfl rfl (tyX2_ok 1 (by decide)) rfl rfl (Nat.le_of_ble_eq_true rfl) rfl rfl dX2_init_14 ?_
  refine GN.aload_n hX 0 rfl dX2_init_17 ?_
  refine GN.iconst hX (v := 0) (by decide) dX2_init_18 ?_
  refine GN.put hX (ws' := [(a, .inr (2, [.int 0, .ref q1, .int 0, .int 0, .int 0, .int 0])), (q1, arB E 120 (fun _ => 0))]) inc_X2_init tyX2 tyX2_ok nmX2 0 rfl rfl 2 (by decide) (by decide +kernel) rfl (tyX2_ok 2 (by decide)) rfl rfl (Nat.le_of_ble_eq_true rfl) rfl rfl dX2_init_19 ?_
  refine GN.aload_n hX 0 rfl dX2_init_22 ?_
  refine GN.iconst hX (v := 0) (by decide) dX2_init_23 ?_
  refine GN.put hX (ws' := [(a, .inr (2, [.int 0, .ref q1, .int 0, .int 0, .int 0, .int 0])), (q1, arB E 120 (fun _ => 0))]) inc_X2_init tyX2 tyX2_ok nmX2 0 rfl rfl 3 (by decide) (by decide +kernel) rfl (tyX2_ok 3 (by decide)) rfl rfl (Nat.le_of_ble_eq_true rfl) rfl rfl dX2_init_24 ?_
  refine GN.aload_n hX 0 rfl dX2_init_27 ?_
  refine GN.iconst hX (v := 0) (by decide) dX2_init_28 ?_
  refine GN.put hX (ws' := [(a, .inr (2, [.int 0, .ref q1, .int 0, .int 0, .int 0, .int 0])), (q1, arB E 120 (fun _ => 0))]) inc_X2_init tyX2 tyX2_ok nmX2 0 rfl rfl 4 (by decide) (by decide +kernel) rfl (tyX2_ok 4 (by decide)) rfl rfl (Nat.le_of_ble_eq_true rfl) rfl rfl dX2_init_29 ?_
  refine GN.aload_n hX 0 rfl dX2_init_32 ?_
  refine GN.iconst hX (v := 0) (by decide) dX2_init_33 ?_
  refine GN.put hX (ws' := [(a, .inr (2, [.int 0, .ref q1, .int 0, .int 0, .int 0, .int 0])), (q1, arB E 120 (fun _ => 0))]) inc_X2_init tyX2 tyX2_ok nmX2 0 rfl rfl 5 (by decide) (by decide +kernel) rfl (tyX2_ok 5 (by decide)) rfl rfl (Nat.le_of_ble_eq_true rfl) rfl rfl dX2_init_34 ?_
  refine GN.wide (kc' := 1) (ks' := 120) (by decide) (by decide) ?_
  exact GN.vretN hX hQ (fun _ j => match j with | 0 => a | _ => q1) rfl dX2_init_37 rfl
abbrev rmX3_init : Room := { frames := 2, cells := 33, slots := 873, locals := 50 }
theorem inc_X3_init : ∀ w ∈ u_ws RX3 TX3 9, w ∈ wsX3_init := by decide +kernel
theorem inc3_X0 : ∀ w ∈ u_ws RX0 TX0 6, w ∈ wsX3_init := by decide +kernel
theorem inc3_X1 : ∀ w ∈ u_ws RX1 TX1 3, w ∈ wsX3_init := by decide +kernel
theorem inc3_X2 : ∀ w ∈ u_ws RX2 TX2 6, w ∈ wsX3_init := by decide +kernel
theorem dfX0 : ∀ j, j < 6 → defaultValue (tyX0 j) = vp_V [.int 0, .int 0, .null, .null, .null, .null] j := by
  intro j hj
  match j, hj with
  | 0, _ => rfl
  | 1, _ => rfl
  | 2, _ => rfl
  | 3, _ => rfl
  | 4, _ => rfl
  | 5, _ => rfl
  | j + 6, h => exact absurd h (by omega)
theorem dfX1 : ∀ j, j < 3 → defaultValue (tyX1 j) = vp_V [.int 0, .int 0, .null] j := by
  intro j hj
  match j, hj with
  | 0, _ => rfl
  | 1, _ => rfl
  | 2, _ => rfl
  | j + 3, h => exact absurd h (by omega)
theorem dfX2 : ∀ j, j < 6 → defaultValue (tyX2 j) = vp_V [.int 0, .null, .int 0, .int 0, .int 0, .int 0] j := by
  intro j hj
  match j, hj with
  | 0, _ => rfl
  | 1, _ => rfl
  | 2, _ => rfl
  | 3, _ => rfl
  | 4, _ => rfl
  | 5, _ => rfl
  | j + 6, h => exact absurd h (by omega)
theorem dfX3 : ∀ j, j < 9 → defaultValue (tyX3 j) = vp_V [.null, .null, .null, .null, .null, .null, .null, .null, .int 0] j := by
  intro j hj
  match j, hj with
  | 0, _ => rfl
  | 1, _ => rfl
  | 2, _ => rfl
  | 3, _ => rfl
  | 4, _ => rfl
  | 5, _ => rfl
  | 6, _ => rfl
  | 7, _ => rfl
  | 8, _ => rfl
  | j + 9, h => exact absurd h (by omega)
theorem dfX4 : ∀ j, j < 19 → defaultValue (tyX4 j) = vp_V [.null, .null, .null, .null, .null, .int 0, .null, .int 0, .int 0, .null, .int 0, .int 0, .int 0, .int 0, .int 0, .null, .null, .null, .null] j := by
  intro j hj
  match j, hj with
  | 0, _ => rfl
  | 1, _ => rfl
  | 2, _ => rfl
  | 3, _ => rfl
  | 4, _ => rfl
  | 5, _ => rfl
  | 6, _ => rfl
  | 7, _ => rfl
  | 8, _ => rfl
  | 9, _ => rfl
  | 10, _ => rfl
  | 11, _ => rfl
  | 12, _ => rfl
  | 13, _ => rfl
  | 14, _ => rfl
  | 15, _ => rfl
  | 16, _ => rfl
  | 17, _ => rfl
  | 18, _ => rfl
  | j + 19, h => exact absurd h (by omega)
set_option maxHeartbeats 4000000 in
set_option maxRecDepth 100000 in
theorem c_X3_init (l : Launch) (E : EV) (a : Nat) : CN l yX3_init wsX3_init rmX3_init E [.ref a] [(a, .inr (3, [.null, .null, .null, .null, .null, .null, .null, .null, .int 0]))] 33 873 (fun u => u 0 0 = a) (fun u => W3 E u 0 AV0 AV0 AV0 AV0 (fun _ => 0) 0 0 0 0 0 (fun _ => 0) (fun _ => 0) (fun _ => 0) (fun _ _ => 0) (fun _ => 0)) := by
  refine CN.of (own := RX3) (cc := cX3_init) (nL := 2) (by decide) rfl rfl rfl (Nat.le_of_ble_eq_true rfl) (fun X hX hxk hin hQ => ?_)
  show GN 0 0 E X 2 0 [(0, .ref a)] [] [(a, .inr (3, [.null, .null, .null, .null, .null, .null, .null, .null, .int 0]))]
  have hT : ∀ c0 r i x, wsX3_init = c0 :: r → r[i]? = some x → x ∈ wsX3_init := fun c0 r i x h hx => oi_in h hx
  refine GN.aload_n hX 0 rfl dX3_init_0 ?_
  refine GN.objI hX (by decide +kernel) (by decide +kernel) (oi_in (i := 2) rfl rfl) (by decide) (by decide) dX3_init_1 ?_
  refine GN.aload_n hX 0 rfl dX3_init_4 ?_
  refine GN.new hX (ci := 0) (fs := [.int 0, .int 0, .null, .null, .null, .null]) inc3_X0 tyX0 tyX0_ok (by decide +kernel) (by decide +kernel) (by decide +kernel) rfl dfX0 (by decide) (by decide) dX3_init_5 (fun bu1 => ?_)
  refine GN.dup hX rfl dX3_init_8 ?_
  refine GN.cI hX hxk (wr := [(a, .inr (3, [.null, .null, .null, .null, .null, .null, .null, .null, .int 0]))]) (c_X0_init _ E bu1) gX3_init_X0_init (by decide +kernel) (by decide +kernel) (by decide +kernel) rfl rfl rfl rfl (by decide +kernel) (by decide) (by decide) (by decide) [1] [0] rfl rfl (by decide) (Nat.le_of_ble_eq_true rfl) dX3_init_9 (fun u1 hu1 => ?_)
  subst hu1
  refine GN.putF hX hin (ws' := [(a, .inr (3, [.ref (u1 0 0), .null, .null, .null, .null, .null, .null, .null, .int 0])), (u1 0 0, avO (u1 0) 0 63), (u1 0 1, arI E 12 (fun _ => 0)), (u1 0 2, arI E 12 (fun _ => 40)), (u1 0 3, arI E 12 (fun _ => 0)), (u1 0 4, arI E 96 (fun _ => 0))]) inc_X3_init tyX3 tyX3_ok nmX3 0 rfl rfl 0 (by decide) (by decide +kernel) rfl rfl (tyX3_ok 0 (by decide)) rfl rfl (Nat.le_of_ble_eq_true rfl) rfl rfl dX3_init_12 ?_
  refine GN.aload_n hX 0 rfl dX3_init_15 ?_
  refine GN.new hX (ci := 0) (fs := [.int 0, .int 0, .null, .null, .null, .null]) inc3_X0 tyX0 tyX0_ok (by decide +kernel) (by decide +kernel) (by decide +kernel) rfl dfX0 (by decide) (by decide) dX3_init_16 (fun bu2 => ?_)
  refine GN.dup hX rfl dX3_init_19 ?_
  refine GN.cI hX hxk (wr := [(a, .inr (3, [.ref (u1 0 0), .null, .null, .null, .null, .null, .null, .null, .int 0])), (u1 0 0, avO (u1 0) 0 63), (u1 0 1, arI E 12 (fun _ => 0)), (u1 0 2, arI E 12 (fun _ => 40)), (u1 0 3, arI E 12 (fun _ => 0)), (u1 0 4, arI E 96 (fun _ => 0))]) (c_X0_init _ E bu2) gX3_init_X0_init (by decide +kernel) (by decide +kernel) (by decide +kernel) rfl rfl rfl rfl (by decide +kernel) (by decide) (by decide) (by decide) [6] [0, 1, 2, 3, 4, 5] rfl rfl (by decide) (Nat.le_of_ble_eq_true rfl) dX3_init_20 (fun u2 hu2 => ?_)
  subst hu2
  refine GN.putF hX hin (ws' := [(a, .inr (3, [.ref (u1 0 0), .ref (u2 0 0), .null, .null, .null, .null, .null, .null, .int 0])), (u1 0 0, avO (u1 0) 0 63), (u1 0 1, arI E 12 (fun _ => 0)), (u1 0 2, arI E 12 (fun _ => 40)), (u1 0 3, arI E 12 (fun _ => 0)), (u1 0 4, arI E 96 (fun _ => 0)), (u2 0 0, avO (u2 0) 0 63), (u2 0 1, arI E 12 (fun _ => 0)), (u2 0 2, arI E 12 (fun _ => 40)), (u2 0 3, arI E 12 (fun _ => 0)), (u2 0 4, arI E 96 (fun _ => 0))]) inc_X3_init tyX3 tyX3_ok nmX3 0 rfl rfl 1 (by decide) (by decide +kernel) rfl rfl (tyX3_ok 1 (by decide)) rfl rfl (Nat.le_of_ble_eq_true rfl) rfl rfl dX3_init_23 ?_
  refine GN.aload_n hX 0 rfl dX3_init_26 ?_
  refine GN.new hX (ci := 0) (fs := [.int 0, .int 0, .null, .null, .null, .null]) inc3_X0 tyX0 tyX0_ok (by decide +kernel) (by decide +kernel) (by decide +kernel) rfl dfX0 (by decide) (by decide) dX3_init_27 (fun bu3 => ?_)
  refine GN.dup hX rfl dX3_init_30 ?_
  refine GN.cI hX hxk (wr := [(a, .inr (3, [.ref (u1 0 0), .ref (u2 0 0), .null, .null, .null, .null, .null, .null, .int 0])), (u1 0 0, avO (u1 0) 0 63), (u1 0 1, arI E 12 (fun _ => 0)), (u1 0 2, arI E 12 (fun _ => 40)), (u1 0 3, arI E 12 (fun _ => 0)), (u1 0 4, arI E 96 (fun _ => 0)), (u2 0 0, avO (u2 0) 0 63), (u2 0 1, arI E 12 (fun _ => 0)), (u2 0 2, arI E 12 (fun _ => 40)), (u2 0 3, arI E 12 (fun _ => 0)), (u2 0 4, arI E 96 (fun _ => 0))]) (c_X0_init _ E bu3) gX3_init_X0_init (by decide +kernel) (by decide +kernel) (by decide +kernel) rfl rfl rfl rfl (by decide +kernel) (by decide) (by decide) (by decide) [11] [0, 1, 2, 3, 4, 5, 6, 7, 8, 9, 10] rfl rfl (by decide) (Nat.le_of_ble_eq_true rfl) dX3_init_31 (fun u3 hu3 => ?_)
  subst hu3
  refine GN.putF hX hin (ws' := [(a, .inr (3, [.ref (u1 0 0), .ref (u2 0 0), .ref (u3 0 0), .null, .null, .null, .null, .null, .int 0])), (u1 0 0, avO (u1 0) 0 63), (u1 0 1, arI E 12 (fun _ => 0)), (u1 0 2, arI E 12 (fun _ => 40)), (u1 0 3, arI E 12 (fun _ => 0)), (u1 0 4, arI E 96 (fun _ => 0)), (u2 0 0, avO (u2 0) 0 63), (u2 0 1, arI E 12 (fun _ => 0)), (u2 0 2, arI E 12 (fun _ => 40)), (u2 0 3, arI E 12 (fun _ => 0)), (u2 0 4, arI E 96 (fun _ => 0)), (u3 0 0, avO (u3 0) 0 63), (u3 0 1, arI E 12 (fun _ => 0)), (u3 0 2, arI E 12 (fun _ => 40)), (u3 0 3, arI E 12 (fun _ => 0)), (u3 0 4, arI E 96 (fun _ => 0))]) inc_X3_init tyX3 tyX3_ok nmX3 0 rfl rfl 2 (by decide) (by decide +kernel) rfl rfl (tyX3_ok 2 (by decide)) rfl rfl (Nat.le_of_ble_eq_true rfl) rfl rfl dX3_init_34 ?_
  refine GN.aload_n hX 0 rfl dX3_init_37 ?_
  refine GN.new hX (ci := 0) (fs := [.int 0, .int 0, .null, .null, .null, .null]) inc3_X0 tyX0 tyX0_ok (by decide +kernel) (by decide +kernel) (by decide +kernel) rfl dfX0 (by decide) (by decide) dX3_init_38 (fun bu4 => ?_)
  refine GN.dup hX rfl dX3_init_41 ?_
  refine GN.cI hX hxk (wr := [(a, .inr (3, [.ref (u1 0 0), .ref (u2 0 0), .ref (u3 0 0), .null, .null, .null, .null, .null, .int 0])), (u1 0 0, avO (u1 0) 0 63), (u1 0 1, arI E 12 (fun _ => 0)), (u1 0 2, arI E 12 (fun _ => 40)), (u1 0 3, arI E 12 (fun _ => 0)), (u1 0 4, arI E 96 (fun _ => 0)), (u2 0 0, avO (u2 0) 0 63), (u2 0 1, arI E 12 (fun _ => 0)), (u2 0 2, arI E 12 (fun _ => 40)), (u2 0 3, arI E 12 (fun _ => 0)), (u2 0 4, arI E 96 (fun _ => 0)), (u3 0 0, avO (u3 0) 0 63), (u3 0 1, arI E 12 (fun _ => 0)), (u3 0 2, arI E 12 (fun _ => 40)), (u3 0 3, arI E 12 (fun _ => 0)), (u3 0 4, arI E 96 (fun _ => 0))]) (c_X0_init _ E bu4) gX3_init_X0_init (by decide +kernel) (by decide +kernel) (by decide +kernel) rfl rfl rfl rfl (by decide +kernel) (by decide) (by decide) (by decide) [16] [0, 1, 2, 3, 4, 5, 6, 7, 8, 9, 10, 11, 12, 13, 14, 15] rfl rfl (by decide) (Nat.le_of_ble_eq_true rfl) dX3_init_42 (fun u4 hu4 => ?_)
  subst hu4
  refine GN.putF hX hin (ws' := [(a, .inr (3, [.ref (u1 0 0), .ref (u2 0 0), .ref (u3 0 0), .ref (u4 0 0), .null, .null, .null, .null, .int 0])), (u1 0 0, avO (u1 0) 0 63), (u1 0 1, arI E 12 (fun _ => 0)), (u1 0 2, arI E 12 (fun _ => 40)), (u1 0 3, arI E 12 (fun _ => 0)), (u1 0 4, arI E 96 (fun _ => 0)), (u2 0 0, avO (u2 0) 0 63), (u2 0 1, arI E 12 (fun _ => 0)), (u2 0 2, arI E 12 (fun _ => 40)), (u2 0 3, arI E 12 (fun _ => 0)), (u2 0 4, arI E 96 (fun _ => 0)), (u3 0 0, avO (u3 0) 0 63), (u3 0 1, arI E 12 (fun _ => 0)), (u3 0 2, arI E 12 (fun _ => 40)), (u3 0 3, arI E 12 (fun _ => 0)), (u3 0 4, arI E 96 (fun _ => 0)), (u4 0 0, avO (u4 0) 0 63), (u4 0 1, arI E 12 (fun _ => 0)), (u4 0 2, arI E 12 (fun _ => 40)), (u4 0 3, arI E 12 (fun _ => 0)), (u4 0 4, arI E 96 (fun _ => 0))]) inc_X3_init tyX3 tyX3_ok nmX3 0 rfl rfl 3 (by decide) (by decide +kernel) rfl rfl (tyX3_ok 3 (by decide)) rfl rfl (Nat.le_of_ble_eq_true rfl) rfl rfl dX3_init_45 ?_
  refine GN.aload_n hX 0 rfl dX3_init_48 ?_
  refine GN.bipush hX (v := 12) (by decide) dX3_init_49 ?_
  refine GN.newI hX (n := 12) (by decide +kernel) (by decide) (by decide) (by decide) (by decide) dX3_init_51 (fun ql => ?_)
  refine GN.putF hX hin (ws' := [(a, .inr (3, [.ref (u1 0 0), .ref (u2 0 0), .ref (u3 0 0), .ref (u4 0 0), .ref ql, .null, .null, .null, .int 0])), (u1 0 0, avO (u1 0) 0 63), (u1 0 1, arI E 12 (fun _ => 0)), (u1 0 2, arI E 12 (fun _ => 40)), (u1 0 3, arI E 12 (fun _ => 0)), (u1 0 4, arI E 96 (fun _ => 0)), (u2 0 0, avO (u2 0) 0 63), (u2 0 1, arI E 12 (fun _ => 0)), (u2 0 2, arI E 12 (fun _ => 40)), (u2 0 3, arI E 12 (fun _ => 0)), (u2 0 4, arI E 96 (fun _ => 0)), (u3 0 0, avO (u3 0) 0 63), (u3 0 1, arI E 12 (fun _ => 0)), (u3 0 2, arI E 12 (fun _ => 40)), (u3 0 3, arI E 12 (fun _ => 0)), (u3 0 4, arI E 96 (fun _ => 0)), (u4 0 0, avO (u4 0) 0 63), (u4 0 1, arI E 12 (fun _ => 0)), (u4 0 2, arI E 12 (fun _ => 40)), (u4 0 3, arI E 12 (fun _ => 0)), (u4 0 4, arI E 96 (fun _ => 0)), (ql, arI E 12 (fun _ => 0))]) inc_X3_init tyX3 tyX3_ok nmX3 0 rfl rfl 4 (by decide) (by decide +kernel) rfl rfl (tyX3_ok 4 (by decide)) rfl rfl (Nat.le_of_ble_eq_true rfl) rfl rfl dX3_init_53 ?_
  refine GN.aload_n hX 0 rfl dX3_init_56 ?_
  refine GN.new hX (ci := 2) (fs := [.int 0, .null, .int 0, .int 0, .int 0, .int 0]) inc3_X2 tyX2 tyX2_ok (by decide +kernel) (by decide +kernel) (by decide +kernel) rfl dfX2 (by decide) (by decide) dX3_init_57 (fun but => ?_)
  refine GN.dup hX rfl dX3_init_60 ?_
  refine GN.cIN hX hxk (wr := [(a, .inr (3, [.ref (u1 0 0), .ref (u2 0 0), .ref (u3 0 0), .ref (u4 0 0), .ref ql, .null, .null, .null, .int 0])), (u1 0 0, avO (u1 0) 0 63), (u1 0 1, arI E 12 (fun _ => 0)), (u1 0 2, arI E 12 (fun _ => 40)), (u1 0 3, arI E 12 (fun _ => 0)), (u1 0 4, arI E 96 (fun _ => 0)), (u2 0 0, avO (u2 0) 0 63), (u2 0 1, arI E 12 (fun _ => 0)), (u2 0 2, arI E 12 (fun _ => 40)), (u2 0 3, arI E 12 (fun _ => 0)), (u2 0 4, arI E 96 (fun _ => 0)), (u3 0 0, avO (u3 0) 0 63), (u3 0 1, arI E 12 (fun _ => 0)), (u3 0 2, arI E 12 (fun _ => 40)), (u3 0 3, arI E 12 (fun _ => 0)), (u3 0 4, arI E 96 (fun _ => 0)), (u4 0 0, avO (u4 0) 0 63), (u4 0 1, arI E 12 (fun _ => 0)), (u4 0 2, arI E 12 (fun _ => 40)), (u4 0 3, arI E 12 (fun _ => 0)), (u4 0 4, arI E 96 (fun _ => 0)), (ql, arI E 12 (fun _ => 0))]) (c_X2_init _ E but) gX3_init_X2_init_n31 hxk.2.1 (by decide +kernel) (by decide +kernel) rfl rfl rfl rfl (by decide +kernel) (by decide) (by decide) (by decide) [22] [0, 1, 2, 3, 4, 5, 6, 7, 8, 9, 10, 11, 12, 13, 14, 15, 16, 17, 18, 19, 20, 21] rfl rfl (by decide) (Nat.le_of_ble_eq_true rfl) dX3_init_61 (fun ut hut => ?_)
  subst hut
  refine GN.putF hX hin (ws' := [(a, .inr (3, [.ref (u1 0 0), .ref (u2 0 0), .ref (u3 0 0), .ref (u4 0 0), .ref ql, .ref (ut 0 0), .null, .null, .int 0])), (u1 0 0, avO (u1 0) 0 63), (u1 0 1, arI E 12 (fun _ => 0)), (u1 0 2, arI E 12 (fun _ => 40)), (u1 0 3, arI E 12 (fun _ => 0)), (u1 0 4, arI E 96 (fun _ => 0)), (u2 0 0, avO (u2 0) 0 63), (u2 0 1, arI E 12 (fun _ => 0)), (u2 0 2, arI E 12 (fun _ => 40)), (u2 0 3, arI E 12 (fun _ => 0)), (u2 0 4, arI E 96 (fun _ => 0)), (u3 0 0, avO (u3 0) 0 63), (u3 0 1, arI E 12 (fun _ => 0)), (u3 0 2, arI E 12 (fun _ => 40)), (u3 0 3, arI E 12 (fun _ => 0)), (u3 0 4, arI E 96 (fun _ => 0)), (u4 0 0, avO (u4 0) 0 63), (u4 0 1, arI E 12 (fun _ => 0)), (u4 0 2, arI E 12 (fun _ => 40)), (u4 0 3, arI E 12 (fun _ => 0)), (u4 0 4, arI E 96 (fun _ => 0)), (ql, arI E 12 (fun _ => 0)), (ut 0 0, txO (ut 0) 0 0 0 0 0), (ut 0 1, arB E 120 (fun _ => 0))]) inc_X3_init tyX3 tyX3_ok nmX3 0 rfl rfl 5 (by decide) (by decide +kernel) rfl rfl (tyX3_ok 5 (by decide)) rfl rfl (Nat.le_of_ble_eq_true rfl) rfl rfl dX3_init_64 ?_
  refine GN.aload_n hX 0 rfl dX3_init_67 ?_
  refine GN.iconst hX (v := 4) (by decide) dX3_init_68 ?_
  refine GN.newO hX hxk (n := 4) (by decide +kernel) (by decide) (by decide) (by decide) (by decide) dX3_init_69 (fun qs => ?_)
  refine GN.putF hX hin (ws' := [(a, .inr (3, [.ref (u1 0 0), .ref (u2 0 0), .ref (u3 0 0), .ref (u4 0 0), .ref ql, .ref (ut 0 0), .ref qs, .null, .int 0])), (u1 0 0, avO (u1 0) 0 63), (u1 0 1, arI E 12 (fun _ => 0)), (u1 0 2, arI E 12 (fun _ => 40)), (u1 0 3, arI E 12 (fun _ => 0)), (u1 0 4, arI E 96 (fun _ => 0)), (u2 0 0, avO (u2 0) 0 63), (u2 0 1, arI E 12 (fun _ => 0)), (u2 0 2, arI E 12 (fun _ => 40)), (u2 0 3, arI E 12 (fun _ => 0)), (u2 0 4, arI E 96 (fun _ => 0)), (u3 0 0, avO (u3 0) 0 63), (u3 0 1, arI E 12 (fun _ => 0)), (u3 0 2, arI E 12 (fun _ => 40)), (u3 0 3, arI E 12 (fun _ => 0)), (u3 0 4, arI E 96 (fun _ => 0)), (u4 0 0, avO (u4 0) 0 63), (u4 0 1, arI E 12 (fun _ => 0)), (u4 0 2, arI E 12 (fun _ => 40)), (u4 0 3, arI E 12 (fun _ => 0)), (u4 0 4, arI E 96 (fun _ => 0)), (ql, arI E 12 (fun _ => 0)), (ut 0 0, txO (ut 0) 0 0 0 0 0), (ut 0 1, arB E 120 (fun _ => 0)), (qs, arO E 4 (fun _ => none))]) inc_X3_init tyX3 tyX3_ok nmX3 0 rfl rfl 6 (by decide) (by decide +kernel) rfl rfl (tyX3_ok 6 (by decide)) rfl rfl (Nat.le_of_ble_eq_true rfl) rfl rfl dX3_init_72 ?_
  refine GN.aload_n hX 0 rfl dX3_init_75 ?_
  refine GN.bipush hX (v := 7) (by decide) dX3_init_76 ?_
  refine GN.newI hX (n := 7) (by decide +kernel) (by decide) (by decide) (by decide) (by decide) dX3_init_78 (fun qf => ?_)
  refine GN.putF hX hin (ws' := [(a, .inr (3, [.ref (u1 0 0), .ref (u2 0 0), .ref (u3 0 0), .ref (u4 0 0), .ref ql, .ref (ut 0 0), .ref qs, .ref qf, .int 0])), (u1 0 0, avO (u1 0) 0 63), (u1 0 1, arI E 12 (fun _ => 0)), (u1 0 2, arI E 12 (fun _ => 40)), (u1 0 3, arI E 12 (fun _ => 0)), (u1 0 4, arI E 96 (fun _ => 0)), (u2 0 0, avO (u2 0) 0 63), (u2 0 1, arI E 12 (fun _ => 0)), (u2 0 2, arI E 12 (fun _ => 40)), (u2 0 3, arI E 12 (fun _ => 0)), (u2 0 4, arI E 96 (fun _ => 0)), (u3 0 0, avO (u3 0) 0 63), (u3 0 1, arI E 12 (fun _ => 0)), (u3 0 2, arI E 12 (fun _ => 40)), (u3 0 3, arI E 12 (fun _ => 0)), (u3 0 4, arI E 96 (fun _ => 0)), (u4 0 0, avO (u4 0) 0 63), (u4 0 1, arI E 12 (fun _ => 0)), (u4 0 2, arI E 12 (fun _ => 40)), (u4 0 3, arI E 12 (fun _ => 0)), (u4 0 4, arI E 96 (fun _ => 0)), (ql, arI E 12 (fun _ => 0)), (ut 0 0, txO (ut 0) 0 0 0 0 0), (ut 0 1, arB E 120 (fun _ => 0)), (qs, arO E 4 (fun _ => none)), (qf, arI E 7 (fun _ => 0))]) inc_X3_init tyX3 tyX3_ok nmX3 0 rfl rfl 7 (by decide) (by decide +kernel) rfl rfl (tyX3_ok 7 (by decide)) rfl rfl (Nat.le_of_ble_eq_true rfl) rfl rfl dX3_init_80 ?_
  refine GN.aload_n hX 0 rfl dX3_init_83 ?_
  refine GN.iconst hX (v := 0) (by decide) dX3_init_84 ?_
  refine GN.put hX (ws' := [(a, .inr (3, [.ref (u1 0 0), .ref (u2 0 0), .ref (u3 0 0), .ref (u4 0 0), .ref ql, .ref (ut 0 0), .ref qs, .ref qf, .int 0])), (u1 0 0, avO (u1 0) 0 63), (u1 0 1, arI E 12 (fun _ => 0)), (u1 0 2, arI E 12 (fun _ => 40)), (u1 0 3, arI E 12 (fun _ => 0)), (u1 0 4, arI E 96 (fun _ => 0)), (u2 0 0, avO (u2 0) 0 63), (u2 0 1, arI E 12 (fun _ => 0)), (u2 0 2, arI E 12 (fun _ => 40)), (u2 0 3, arI E 12 (fun _ => 0)), (u2 0 4, arI E 96 (fun _ => 0)), (u3 0 0, avO (u3 0) 0 63), (u3 0 1, arI E 12 (fun _ => 0)), (u3 0 2, arI E 12 (fun _ => 40)), (u3 0 3, arI E 12 (fun _ => 0)), (u3 0 4, arI E 96 (fun _ => 0)), (u4 0 0, avO (u4 0) 0 63), (u4 0 1, arI E 12 (fun _ => 0)), (u4 0 2, arI E 12 (fun _ => 40)), (u4 0 3, arI E 12 (fun _ => 0)), (u4 0 4, arI E 96 (fun _ => 0)), (ql, arI E 12 (fun _ => 0)), (ut 0 0, txO (ut 0) 0 0 0 0 0), (ut 0 1, arB E 120 (fun _ => 0)), (qs, arO E 4 (fun _ => none)), (qf, arI E 7 (fun _ => 0))]) inc_X3_init tyX3 tyX3_ok nmX3 0 rfl rfl 8 (by decide) (by decide +kernel) rfl (tyX3_ok 8 (by decide)) rfl rfl (Nat.le_of_ble_eq_true rfl) rfl rfl dX3_init_85 ?_
  refine GN.iconst hX (v := 0) (by decide) dX3_init_88 ?_
  refine GN.istore_n hX (lv' := [(1, .int 0), (0, .ref a)]) rfl (by decide) rfl dX3_init_89 ?_
  refine GN.iload_n hX 0 rfl dX3_init_90 ?_
  refine GN.iconst hX (v := 4) (by decide) dX3_init_91 ?_
  refine GN.icmp_ge hX (tgt := 114) (by decide) dX3_init_92 (fun c => absurd c (by decide)) (fun _ => ?_)
  refine GN.aload_n hX 1 rfl dX3_init_95 ?_
  refine GN.get hX inc_X3_init 0 rfl rfl 6 (by decide) (by decide +kernel) rfl dX3_init_96 ?_
  refine GN.iload_n hX 0 rfl dX3_init_99 ?_
  refine GN.new hX (ci := 1) (fs := [.int 0, .int 0, .null]) inc3_X1 tyX1 tyX1_ok (by decide +kernel) (by decide +kernel) (by decide +kernel) rfl dfX1 (by decide) (by decide) dX3_init_100 (fun bs0 => ?_)
  refine GN.dup hX rfl dX3_init_103 ?_
  refine GN.cIN hX hxk (wr := [(a, .inr (3, [.ref (u1 0 0), .ref (u2 0 0), .ref (u3 0 0), .ref (u4 0 0), .ref ql, .ref (ut 0 0), .ref qs, .ref qf, .int 0])), (u1 0 0, avO (u1 0) 0 63), (u1 0 1, arI E 12 (fun _ => 0)), (u1 0 2, arI E 12 (fun _ => 40)), (u1 0 3, arI E 12 (fun _ => 0)), (u1 0 4, arI E 96 (fun _ => 0)), (u2 0 0, avO (u2 0) 0 63), (u2 0 1, arI E 12 (fun _ => 0)), (u2 0 2, arI E 12 (fun _ => 40)), (u2 0 3, arI E 12 (fun _ => 0)), (u2 0 4, arI E 96 (fun _ => 0)), (u3 0 0, avO (u3 0) 0 63), (u3 0 1, arI E 12 (fun _ => 0)), (u3 0 2, arI E 12 (fun _ => 40)), (u3 0 3, arI E 12 (fun _ => 0)), (u3 0 4, arI E 96 (fun _ => 0)), (u4 0 0, avO (u4 0) 0 63), (u4 0 1, arI E 12 (fun _ => 0)), (u4 0 2, arI E 12 (fun _ => 40)), (u4 0 3, arI E 12 (fun _ => 0)), (u4 0 4, arI E 96 (fun _ => 0)), (ql, arI E 12 (fun _ => 0)), (ut 0 0, txO (ut 0) 0 0 0 0 0), (ut 0 1, arB E 120 (fun _ => 0)), (qs, arO E 4 (fun _ => none)), (qf, arI E 7 (fun _ => 0))]) (c_X1_init _ E bs0) gX3_init_X1_init_n49 hxk.2.2 (by decide +kernel) (by decide +kernel) rfl rfl rfl rfl (by decide +kernel) (by decide) (by decide) (by decide) [26] [0, 1, 2, 3, 4, 5, 6, 7, 8, 9, 10, 11, 12, 13, 14, 15, 16, 17, 18, 19, 20, 21, 22, 23, 24, 25] rfl rfl (by decide) (Nat.le_of_ble_eq_true rfl) dX3_init_104 (fun s0 hs0 => ?_)
  subst hs0
  refine GN.aast hX (j := 0) (ws' := [(a, .inr (3, [.ref (u1 0 0), .ref (u2 0 0), .ref (u3 0 0), .ref (u4 0 0), .ref ql, .ref (ut 0 0), .ref qs, .ref qf, .int 0])), (u1 0 0, avO (u1 0) 0 63), (u1 0 1, arI E 12 (fun _ => 0)), (u1 0 2, arI E 12 (fun _ => 40)), (u1 0 3, arI E 12 (fun _ => 0)), (u1 0 4, arI E 96 (fun _ => 0)), (u2 0 0, avO (u2 0) 0 63), (u2 0 1, arI E 12 (fun _ => 0)), (u2 0 2, arI E 12 (fun _ => 40)), (u2 0 3, arI E 12 (fun _ => 0)), (u2 0 4, arI E 96 (fun _ => 0)), (u3 0 0, avO (u3 0) 0 63), (u3 0 1, arI E 12 (fun _ => 0)), (u3 0 2, arI E 12 (fun _ => 40)), (u3 0 3, arI E 12 (fun _ => 0)), (u3 0 4, arI E 96 (fun _ => 0)), (u4 0 0, avO (u4 0) 0 63), (u4 0 1, arI E 12 (fun _ => 0)), (u4 0 2, arI E 12 (fun _ => 40)), (u4 0 3, arI E 12 (fun _ => 0)), (u4 0 4, arI E 96 (fun _ => 0)), (ql, arI E 12 (fun _ => 0)), (ut 0 0, txO (ut 0) 0 0 0 0 0), (ut 0 1, arB E 120 (fun _ => 0)), (qs, arO E 4 (va_up (fun _ => none) 0 (some (s0 0 0)))), (qf, arI E 7 (fun _ => 0)), (s0 0 0, shO (s0 0) 0 0), (s0 0 1, arJ E 40 (fun _ => 0))]) 24 26 rfl rfl (by decide) (by decide) rfl rfl dX3_init_107 ?_
  refine GN.iinc hX (n := 1) (lv' := [(1, .int 1), (0, .ref a)]) 0 rfl (by decide) (by decide) rfl dX3_init_108 ?_
  refine GN.goto hX (tgt := 90) (by decide) dX3_init_111 ?_
  refine GN.iload_n hX 0 rfl dX3_init_90 ?_
  refine GN.iconst hX (v := 4) (by decide) dX3_init_91 ?_
  refine GN.icmp_ge hX (tgt := 114) (by decide) dX3_init_92 (fun c => absurd c (by decide)) (fun _ => ?_)
  refine GN.aload_n hX 1 rfl dX3_init_95 ?_
  refine GN.get hX inc_X3_init 0 rfl rfl 6 (by decide) (by decide +kernel) rfl dX3_init_96 ?_
  refine GN.iload_n hX 0 rfl dX3_init_99 ?_
  refine GN.new hX (ci := 1) (fs := [.int 0, .int 0, .null]) inc3_X1 tyX1 tyX1_ok (by decide +kernel) (by decide +kernel) (by decide +kernel) rfl dfX1 (by decide) (by decide) dX3_init_100 (fun bs1 => ?_)
  refine GN.dup hX rfl dX3_init_103 ?_
  refine GN.cIN hX hxk (wr := [(a, .inr (3, [.ref (u1 0 0), .ref (u2 0 0), .ref (u3 0 0), .ref (u4 0 0), .ref ql, .ref (ut 0 0), .ref qs, .ref qf, .int 0])), (u1 0 0, avO (u1 0) 0 63), (u1 0 1, arI E 12 (fun _ => 0)), (u1 0 2, arI E 12 (fun _ => 40)), (u1 0 3, arI E 12 (fun _ => 0)), (u1 0 4, arI E 96 (fun _ => 0)), (u2 0 0, avO (u2 0) 0 63), (u2 0 1, arI E 12 (fun _ => 0)), (u2 0 2, arI E 12 (fun _ => 40)), (u2 0 3, arI E 12 (fun _ => 0)), (u2 0 4, arI E 96 (fun _ => 0)), (u3 0 0, avO (u3 0) 0 63), (u3 0 1, arI E 12 (fun _ => 0)), (u3 0 2, arI E 12 (fun _ => 40)), (u3 0 3, arI E 12 (fun _ => 0)), (u3 0 4, arI E 96 (fun _ => 0)), (u4 0 0, avO (u4 0) 0 63), (u4 0 1, arI E 12 (fun _ => 0)), (u4 0 2, arI E 12 (fun _ => 40)), (u4 0 3, arI E 12 (fun _ => 0)), (u4 0 4, arI E 96 (fun _ => 0)), (ql, arI E 12 (fun _ => 0)), (ut 0 0, txO (ut 0) 0 0 0 0 0), (ut 0 1, arB E 120 (fun _ => 0)), (qs, arO E 4 (va_up (fun _ => none) 0 (some (s0 0 0)))), (qf, arI E 7 (fun _ => 0)), (s0 0 0, shO (s0 0) 0 0), (s0 0 1, arJ E 40 (fun _ => 0))]) (c_X1_init _ E bs1) gX3_init_X1_init_n49 hxk.2.2 (by decide +kernel) (by decide +kernel) rfl rfl rfl rfl (by decide +kernel) (by decide) (by decide) (by decide) [28] [0, 1, 2, 3, 4, 5, 6, 7, 8, 9, 10, 11, 12, 13, 14, 15, 16, 17, 18, 19, 20, 21, 22, 23, 24, 25, 26, 27] rfl rfl (by decide) (Nat.le_of_ble_eq_true rfl) dX3_init_104 (fun s1 hs1 => ?_)
  subst hs1
  refine GN.aast hX (j := 1) (ws' := [(a, .inr (3, [.ref (u1 0 0), .ref (u2 0 0), .ref (u3 0 0), .ref (u4 0 0), .ref ql, .ref (ut 0 0), .ref qs, .ref qf, .int 0])), (u1 0 0, avO (u1 0) 0 63), (u1 0 1, arI E 12 (fun _ => 0)), (u1 0 2, arI E 12 (fun _ => 40)), (u1 0 3, arI E 12 (fun _ => 0)), (u1 0 4, arI E 96 (fun _ => 0)), (u2 0 0, avO (u2 0) 0 63), (u2 0 1, arI E 12 (fun _ => 0)), (u2 0 2, arI E 12 (fun _ => 40)), (u2 0 3, arI E 12 (fun _ => 0)), (u2 0 4, arI E 96 (fun _ => 0)), (u3 0 0, avO (u3 0) 0 63), (u3 0 1, arI E 12 (fun _ => 0)), (u3 0 2, arI E 12 (fun _ => 40)), (u3 0 3, arI E 12 (fun _ => 0)), (u3 0 4, arI E 96 (fun _ => 0)), (u4 0 0, avO (u4 0) 0 63), (u4 0 1, arI E 12 (fun _ => 0)), (u4 0 2, arI E 12 (fun _ => 40)), (u4 0 3, arI E 12 (fun _ => 0)), (u4 0 4, arI E 96 (fun _ => 0)), (ql, arI E 12 (fun _ => 0)), (ut 0 0, txO (ut 0) 0 0 0 0 0), (ut 0 1, arB E 120 (fun _ => 0)), (qs, arO E 4 (va_up (va_up (fun _ => none) 0 (some (s0 0 0))) 1 (some (s1 0 0)))), (qf, arI E 7 (fun _ => 0)), (s0 0 0, shO (s0 0) 0 0), (s0 0 1, arJ E 40 (fun _ => 0)), (s1 0 0, shO (s1 0) 0 0), (s1 0 1, arJ E 40 (fun _ => 0))]) 24 28 rfl rfl (by decide) (by decide) rfl rfl dX3_init_107 ?_
  refine GN.iinc hX (n := 1) (lv' := [(1, .int 2), (0, .ref a)]) 0 rfl (by decide) (by decide) rfl dX3_init_108 ?_
  refine GN.goto hX (tgt := 90) (by decide) dX3_init_111 ?_
  refine GN.iload_n hX 0 rfl dX3_init_90 ?_
  refine GN.iconst hX (v := 4) (by decide) dX3_init_91 ?_
  refine GN.icmp_ge hX (tgt := 114) (by decide) dX3_init_92 (fun c => absurd c (by decide)) (fun _ => ?_)
  refine GN.aload_n hX 1 rfl dX3_init_95 ?_
  refine GN.get hX inc_X3_init 0 rfl rfl 6 (by decide) (by decide +kernel) rfl dX3_init_96 ?_
  refine GN.iload_n hX 0 rfl dX3_init_99 ?_
  refine GN.new hX (ci := 1) (fs := [.int 0, .int 0, .null]) inc3_X1 tyX1 tyX1_ok (by decide +kernel) (by decide +kernel) (by decide +kernel) rfl dfX1 (by decide) (by decide) dX3_init_100 (fun bs2 => ?_)
  refine GN.dup hX rfl dX3_init_103 ?_
  refine GN.cIN hX hxk (wr := [(a, .inr (3, [.ref (u1 0 0), .ref (u2 0 0), .ref (u3 0 0), .ref (u4 0 0), .ref ql, .ref (ut 0 0), .ref qs, .ref qf, .int 0])), (u1 0 0, avO (u1 0) 0 63), (u1 0 1, arI E 12 (fun _ => 0)), (u1 0 2, arI E 12 (fun _ => 40)), (u1 0 3, arI E 12 (fun _ => 0)), (u1 0 4, arI E 96 (fun _ => 0)), (u2 0 0, avO (u2 0) 0 63), (u2 0 1, arI E 12 (fun _ => 0)), (u2 0 2, arI E 12 (fun _ => 40)), (u2 0 3, arI E 12 (fun _ => 0)), (u2 0 4, arI E 96 (fun _ => 0)), (u3 0 0, avO (u3 0) 0 63), (u3 0 1, arI E 12 (fun _ => 0)), (u3 0 2, arI E 12 (fun _ => 40)), (u3 0 3, arI E 12 (fun _ => 0)), (u3 0 4, arI E 96 (fun _ => 0)), (u4 0 0, avO (u4 0) 0 63), (u4 0 1, arI E 12 (fun _ => 0)), (u4 0 2, arI E 12 (fun _ => 40)), (u4 0 3, arI E 12 (fun _ => 0)), (u4 0 4, arI E 96 (fun _ => 0)), (ql, arI E 12 (fun _ => 0)), (ut 0 0, txO (ut 0) 0 0 0 0 0), (ut 0 1, arB E 120 (fun _ => 0)), (qs, arO E 4 (va_up (va_up (fun _ => none) 0 (some (s0 0 0))) 1 (some (s1 0 0)))), (qf, arI E 7 (fun _ => 0)), (s0 0 0, shO (s0 0) 0 0), (s0 0 1, arJ E 40 (fun _ => 0)), (s1 0 0, shO (s1 0) 0 0), (s1 0 1, arJ E 40 (fun _ => 0))]) (c_X1_init _ E bs2) gX3_init_X1_init_n49 hxk.2.2 (by decide +kernel) (by decide +kernel) rfl rfl rfl rfl (by decide +kernel) (by decide) (by decide) (by decide) [30] [0, 1, 2, 3, 4, 5, 6, 7, 8, 9, 10, 11, 12, 13, 14, 15, 16, 17, 18, 19, 20, 21, 22, 23, 24, 25, 26, 27, 28, 29] rfl rfl (by decide) (Nat.le_of_ble_eq_true rfl) dX3_init_104 (fun s2 hs2 => ?_)
  subst hs2
  refine GN.aast hX (j := 2) (ws' := [(a, .inr (3, [.ref (u1 0 0), .ref (u2 0 0), .ref (u3 0 0), .ref (u4 0 0), .ref ql, .ref (ut 0 0), .ref qs, .ref qf, .int 0])), (u1 0 0, avO (u1 0) 0 63), (u1 0 1, arI E 12 (fun _ => 0)), (u1 0 2, arI E 12 (fun _ => 40)), (u1 0 3, arI E 12 (fun _ => 0)), (u1 0 4, arI E 96 (fun _ => 0)), (u2 0 0, avO (u2 0) 0 63), (u2 0 1, arI E 12 (fun _ => 0)), (u2 0 2, arI E 12 (fun _ => 40)), (u2 0 3, arI E 12 (fun _ => 0)), (u2 0 4, arI E 96 (fun _ => 0)), (u3 0 0, avO (u3 0) 0 63), (u3 0 1, arI E 12 (fun _ => 0)), (u3 0 2, arI E 12 (fun _ => 40)), (u3 0 3, arI E 12 (fun _ => 0)), (u3 0 4, arI E 96 (fun _ => 0)), (u4 0 0, avO (u4 0) 0 63), (u4 0 1, arI E 12 (fun _ => 0)), (u4 0 2, arI E 12 (fun _ => 40)), (u4 0 3, arI E 12 (fun _ => 0)), (u4 0 4, arI E 96 (fun _ => 0)), (ql, arI E 12 (fun _ => 0)), (ut 0 0, txO (ut 0) 0 0 0 0 0), (ut 0 1, arB E 120 (fun _ => 0)), (qs, arO E 4 (va_up (va_up (va_up (fun _ => none) 0 (some (s0 0 0))) 1 (some (s1 0 0))) 2 (some (s2 0 0)))), (qf, arI E 7 (fun _ => 0)), (s0 0 0, shO (s0 0) 0 0), (s0 0 1, arJ E 40 (fun _ => 0)), (s1 0 0, shO (s1 0) 0 0), (s1 0 1, arJ E 40 (fun _ => 0)), (s2 0 0, shO (s2 0) 0 0), (s2 0 1, arJ E 40 (fun _ => 0))]) 24 30 rfl rfl (by decide) (by decide) rfl rfl dX3_init_107 ?_
  refine GN.iinc hX (n := 1) (lv' := [(1, .int 3), (0, .ref a)]) 0 rfl (by decide) (by decide) rfl dX3_init_108 ?_
  refine GN.goto hX (tgt := 90) (by decide) dX3_init_111 ?_
  refine GN.iload_n hX 0 rfl dX3_init_90 ?_
  refine GN.iconst hX (v := 4) (by decide) dX3_init_91 ?_
  refine GN.icmp_ge hX (tgt := 114) (by decide) dX3_init_92 (fun c => absurd c (by decide)) (fun _ => ?_)
  refine GN.aload_n hX 1 rfl dX3_init_95 ?_
  refine GN.get hX inc_X3_init 0 rfl rfl 6 (by decide) (by decide +kernel) rfl dX3_init_96 ?_
  refine GN.iload_n hX 0 rfl dX3_init_99 ?_
  refine GN.new hX (ci := 1) (fs := [.int 0, .int 0, .null]) inc3_X1 tyX1 tyX1_ok (by decide +kernel) (by decide +kernel) (by decide +kernel) rfl dfX1 (by decide) (by decide) dX3_init_100 (fun bs3 => ?_)
  refine GN.dup hX rfl dX3_init_103 ?_
  refine GN.cIN hX hxk (wr := [(a, .inr (3, [.ref (u1 0 0), .ref (u2 0 0), .ref (u3 0 0), .ref (u4 0 0), .ref ql, .ref (ut 0 0), .ref qs, .ref qf, .int 0])), (u1 0 0, avO (u1 0) 0 63), (u1 0 1, arI E 12 (fun _ => 0)), (u1 0 2, arI E 12 (fun _ => 40)), (u1 0 3, arI E 12 (fun _ => 0)), (u1 0 4, arI E 96 (fun _ => 0)), (u2 0 0, avO (u2 0) 0 63), (u2 0 1, arI E 12 (fun _ => 0)), (u2 0 2, arI E 12 (fun _ => 40)), (u2 0 3, arI E 12 (fun _ => 0)), (u2 0 4, arI E 96 (fun _ => 0)), (u3 0 0, avO (u3 0) 0 63), (u3 0 1, arI E 12 (fun _ => 0)), (u3 0 2, arI E 12 (fun _ => 40)), (u3 0 3, arI E 12 (fun _ => 0)), (u3 0 4, arI E 96 (fun _ => 0)), (u4 0 0, avO (u4 0) 0 63), (u4 0 1, arI E 12 (fun _ => 0)), (u4 0 2, arI E 12 (fun _ => 40)), (u4 0 3, arI E 12 (fun _ => 0)), (u4 0 4, arI E 96 (fun _ => 0)), (ql, arI E 12 (fun _ => 0)), (ut 0 0, txO (ut 0) 0 0 0 0 0), (ut 0 1, arB E 120 (fun _ => 0)), (qs, arO E 4 (va_up (va_up (va_up (fun _ => none) 0 (some (s0 0 0))) 1 (some (s1 0 0))) 2 (some (s2 0 0)))), (qf, arI E 7 (fun _ => 0)), (s0 0 0, shO (s0 0) 0 0), (s0 0 1, arJ E 40 (fun _ => 0)), (s1 0 0, shO (s1 0) 0 0), (s1 0 1, arJ E 40 (fun _ => 0)), (s2 0 0, shO (s2 0) 0 0), (s2 0 1, arJ E 40 (fun _ => 0))]) (c_X1_init _ E bs3) gX3_init_X1_init_n49 hxk.2.2 (by decide +kernel) (by decide +kernel) rfl rfl rfl rfl (by decide +kernel) (by decide) (by decide) (by decide) [32] [0, 1, 2, 3, 4, 5, 6, 7, 8, 9, 10, 11, 12, 13, 14, 15, 16, 17, 18, 19, 20, 21, 22, 23, 24, 25, 26, 27, 28, 29, 30, 31] rfl rfl (by decide) (Nat.le_of_ble_eq_true rfl) dX3_init_104 (fun s3 hs3 => ?_)
  subst hs3
  refine GN.aast hX (j := 3) (ws' := [(a, .inr (3, [.ref (u1 0 0), .ref (u2 0 0), .ref (u3 0 0), .ref (u4 0 0), .ref ql, .ref (ut 0 0), .ref qs, .ref qf, .int 0])), (u1 0 0, avO (u1 0) 0 63), (u1 0 1, arI E 12 (fun _ => 0)), (u1 0 2, arI E 12 (fun _ => 40)), (u1 0 3, arI E 12 (fun _ => 0)), (u1 0 4, arI E 96 (fun _ => 0)), (u2 0 0, avO (u2 0) 0 63), (u2 0 1, arI E 12 (fun _ => 0)), (u2 0 2, arI E 12 (fun _ => 40)), (u2 0 3, arI E 12 (fun _ => 0)), (u2 0 4, arI E 96 (fun _ => 0)), (u3 0 0, avO (u3 0) 0 63), (u3 0 1, arI E 12 (fun _ => 0)), (u3 0 2, arI E 12 (fun _ => 40)), (u3 0 3, arI E 12 (fun _ => 0)), (u3 0 4, arI E 96 (fun _ => 0)), (u4 0 0, avO (u4 0) 0 63), (u4 0 1, arI E 12 (fun _ => 0)), (u4 0 2, arI E 12 (fun _ => 40)), (u4 0 3, arI E 12 (fun _ => 0)), (u4 0 4, arI E 96 (fun _ => 0)), (ql, arI E 12 (fun _ => 0)), (ut 0 0, txO (ut 0) 0 0 0 0 0), (ut 0 1, arB E 120 (fun _ => 0)), (qs, arO E 4 (va_up (va_up (va_up (va_up (fun _ => none) 0 (some (s0 0 0))) 1 (some (s1 0 0))) 2 (some (s2 0 0))) 3 (some (s3 0 0)))), (qf, arI E 7 (fun _ => 0)), (s0 0 0, shO (s0 0) 0 0), (s0 0 1, arJ E 40 (fun _ => 0)), (s1 0 0, shO (s1 0) 0 0), (s1 0 1, arJ E 40 (fun _ => 0)), (s2 0 0, shO (s2 0) 0 0), (s2 0 1, arJ E 40 (fun _ => 0)), (s3 0 0, shO (s3 0) 0 0), (s3 0 1, arJ E 40 (fun _ => 0))]) 24 32 rfl rfl (by decide) (by decide) rfl rfl dX3_init_107 ?_
  refine GN.iinc hX (n := 1) (lv' := [(1, .int 4), (0, .ref a)]) 0 rfl (by decide) (by decide) rfl dX3_init_108 ?_
  refine GN.goto hX (tgt := 90) (by decide) dX3_init_111 ?_
  refine GN.iload_n hX 0 rfl dX3_init_90 ?_
  refine GN.iconst hX (v := 4) (by decide) dX3_init_91 ?_
  refine GN.icmp_ge hX (tgt := 114) (by decide) dX3_init_92 (fun _ => ?_) (fun c => absurd c (by decide))
  refine GN.perm (ws' := [(a, .inr (3, [.ref (u1 0 0), .ref (u2 0 0), .ref (u3 0 0), .ref (u4 0 0), .ref ql, .ref (ut 0 0), .ref qs, .ref qf, .int 0])), (u1 0 0, avO (u1 0) 0 63), (u1 0 1, arI E 12 (fun _ => 0)), (u1 0 2, arI E 12 (fun _ => 40)), (u1 0 3, arI E 12 (fun _ => 0)), (u1 0 4, arI E 96 (fun _ => 0)), (u2 0 0, avO (u2 0) 0 63), (u2 0 1, arI E 12 (fun _ => 0)), (u2 0 2, arI E 12 (fun _ => 40)), (u2 0 3, arI E 12 (fun _ => 0)), (u2 0 4, arI E 96 (fun _ => 0)), (u3 0 0, avO (u3 0) 0 63), (u3 0 1, arI E 12 (fun _ => 0)), (u3 0 2, arI E 12 (fun _ => 40)), (u3 0 3, arI E 12 (fun _ => 0)), (u3 0 4, arI E 96 (fun _ => 0)), (u4 0 0, avO (u4 0) 0 63), (u4 0 1, arI E 12 (fun _ => 0)), (u4 0 2, arI E 12 (fun _ => 40)), (u4 0 3, arI E 12 (fun _ => 0)), (u4 0 4, arI E 96 (fun _ => 0)), (ql, arI E 12 (fun _ => 0)), (ut 0 0, txO (ut 0) 0 0 0 0 0), (ut 0 1, arB E 120 (fun _ => 0)), (qs, arO E 4 (va_up (va_up (va_up (va_up (fun _ => none) 0 (some (s0 0 0))) 1 (some (s1 0 0))) 2 (some (s2 0 0))) 3 (some (s3 0 0)))), (s0 0 0, shO (s0 0) 0 0), (s0 0 1, arJ E 40 (fun _ => 0)), (s1 0 0, shO (s1 0) 0 0), (s1 0 1, arJ E 40 (fun _ => 0)), (s2 0 0, shO (s2 0) 0 0), (s2 0 1, arJ E 40 (fun _ => 0)), (s3 0 0, shO (s3 0) 0 0), (s3 0 1, arJ E 40 (fun _ => 0)), (qf, arI E 7 (fun _ => 0))]) [0, 1, 2, 3, 4, 5, 6, 7, 8, 9, 10, 11, 12, 13, 14, 15, 16, 17, 18, 19, 20, 21, 22, 23, 24, 26, 27, 28, 29, 30, 31, 32, 33, 25] (by decide) rfl ?_
  refine GN.wide (kc' := 33) (ks' := 873) (by decide) (by decide) ?_
  exact GN.vretN hX hQ (fun i j => match i with | 0 => (match j with | 0 => a | 1 => ql | 2 => qs | _ => qf) | 1 => u1 0 j | 2 => u2 0 j | 3 => u3 0 j | 4 => u4 0 j | 5 => ut 0 j | 6 => 0 | 7 => s0 0 j | 8 => s1 0 j | 9 => s2 0 j | _ => s3 0 j) rfl dX3_init_114 (by unfold W3; rw [← shF_up]; rfl)
abbrev rmX4_init : Room := { frames := 2, cells := 11, slots := 835, locals := 60 }
theorem inc_X4_init : ∀ w ∈ u_ws RX4 TX4 19, w ∈ wsX4_init := by decide +kernel
def st0S (t : Nat) (s : Nat → Int32) : Nat → Int32 := ms_sets s t 0 40
def st0 : Nat → Int32 := it st0S 12 (upd (fun _ => 0) 1 63)
set_option maxHeartbeats 4000000 in
set_option maxRecDepth 100000 in
theorem c_X4_init (l : Launch) (E : EV) (a : Nat) : CN l yX4_init wsX4_init rmX4_init E [.ref a] [(a, .inr (4, [.null, .null, .null, .null, .null, .int 0, .null, .int 0, .int 0, .null, .int 0, .int 0, .int 0, .int 0, .int 0, .null, .null, .null, .null]))] 11 835 (fun u => u 6 0 = a) (fun u => W4 E u 0 0 0 0 0 0 0 0 st0 (fun _ => 0) (fun _ => 0) (fun _ => 0) (fun _ => 0) (fun _ => 0) (fun _ => 0) (fun _ => 0) (fun _ => 0) (fun _ => 0) (fun _ => 0)) := by
  refine CN.of (own := RX4) (cc := cX4_init) (nL := 2) (by decide) rfl rfl rfl (Nat.le_of_ble_eq_true rfl) (fun X hX hxk hin hQ => ?_)
  show GN 0 0 E X 2 0 [(0, .ref a)] [] [(a, .inr (4, [.null, .null, .null, .null, .null, .int 0, .null, .int 0, .int 0, .null, .int 0, .int 0, .int 0, .int 0, .int 0, .null, .null, .null, .null]))]
  refine GN.aload_n hX 0 rfl dX4_init_0 ?_
  refine GN.objI hX (by decide +kernel) (by decide +kernel) (oi_in (i := 2) rfl rfl) (by decide) (by decide) dX4_init_1 ?_
  refine GN.aload_n hX 0 rfl dX4_init_4 ?_
  refine GN.bipush hX (v := 122) (by decide) dX4_init_5 ?_
  refine GN.newI hX (n := 122) (by decide +kernel) (by decide) (by decide) (by decide) (by decide) dX4_init_7 (fun q1 => ?_)
  refine GN.putF hX hin (ws' := [(a, .inr (4, [.ref q1, .null, .null, .null, .null, .int 0, .null, .int 0, .int 0, .null, .int 0, .int 0, .int 0, .int 0, .int 0, .null, .null, .null, .null])), (q1, arI E 122 (fun _ => 0))]) inc_X4_init tyX4 tyX4_ok nmX4 0 rfl rfl 0 (by decide) (by decide +kernel) rfl rfl (tyX4_ok 0 (by decide)) rfl rfl (Nat.le_of_ble_eq_true rfl) rfl rfl dX4_init_9 ?_
  refine GN.aload_n hX 0 rfl dX4_init_12 ?_
  refine GN.bipush hX (v := 122) (by decide) dX4_init_13 ?_
  refine GN.newI hX (n := 122) (by decide +kernel) (by decide) (by decide) (by decide) (by decide) dX4_init_15 (fun q2 => ?_)
  refine GN.putF hX hin (ws' := [(a, .inr (4, [.ref q1, .ref q2, .null, .null, .null, .int 0, .null, .int 0, .int 0, .null, .int 0, .int 0, .int 0, .int 0, .int 0, .null, .null, .null, .null])), (q1, arI E 122 (fun _ => 0)), (q2, arI E 122 (fun _ => 0))]) inc_X4_init tyX4 tyX4_ok nmX4 0 rfl rfl 1 (by decide) (by decide +kernel) rfl rfl (tyX4_ok 1 (by decide)) rfl rfl (Nat.le_of_ble_eq_true rfl) rfl rfl dX4_init_17 ?_
  refine GN.aload_n hX 0 rfl dX4_init_20 ?_
  refine GN.bipush hX (v := 122) (by decide) dX4_init_21 ?_
  refine GN.newI hX (n := 122) (by decide +kernel) (by decide) (by decide) (by decide) (by decide) dX4_init_23 (fun q3 => ?_)
  refine GN.putF hX hin (ws' := [(a, .inr (4, [.ref q1, .ref q2, .ref q3, .null, .null, .int 0, .null, .int 0, .int 0, .null, .int 0, .int 0, .int 0, .int 0, .int 0, .null, .null, .null, .null])), (q1, arI E 122 (fun _ => 0)), (q2, arI E 122 (fun _ => 0)), (q3, arI E 122 (fun _ => 0))]) inc_X4_init tyX4 tyX4_ok nmX4 0 rfl rfl 2 (by decide) (by decide +kernel) rfl rfl (tyX4_ok 2 (by decide)) rfl rfl (Nat.le_of_ble_eq_true rfl) rfl rfl dX4_init_25 ?_
  refine GN.aload_n hX 0 rfl dX4_init_28 ?_
  refine GN.bipush hX (v := 122) (by decide) dX4_init_29 ?_
  refine GN.newI hX (n := 122) (by decide +kernel) (by decide) (by decide) (by decide) (by decide) dX4_init_31 (fun q4 => ?_)
  refine GN.putF hX hin (ws' := [(a, .inr (4, [.ref q1, .ref q2, .ref q3, .ref q4, .null, .int 0, .null, .int 0, .int 0, .null, .int 0, .int 0, .int 0, .int 0, .int 0, .null, .null, .null, .null])), (q1, arI E 122 (fun _ => 0)), (q2, arI E 122 (fun _ => 0)), (q3, arI E 122 (fun _ => 0)), (q4, arI E 122 (fun _ => 0))]) inc_X4_init tyX4 tyX4_ok nmX4 0 rfl rfl 3 (by decide) (by decide +kernel) rfl rfl (tyX4_ok 3 (by decide)) rfl rfl (Nat.le_of_ble_eq_true rfl) rfl rfl dX4_init_33 ?_
  refine GN.aload_n hX 0 rfl dX4_init_36 ?_
  refine GN.bipush hX (v := 7) (by decide) dX4_init_37 ?_
  refine GN.newI hX (n := 7) (by decide +kernel) (by decide) (by decide) (by decide) (by decide) dX4_init_39 (fun q5 => ?_)
  refine GN.putF hX hin (ws' := [(a, .inr (4, [.ref q1, .ref q2, .ref q3, .ref q4, .ref q5, .int 0, .null, .int 0, .int 0, .null, .int 0, .int 0, .int 0, .int 0, .int 0, .null, .null, .null, .null])), (q1, arI E 122 (fun _ => 0)), (q2, arI E 122 (fun _ => 0)), (q3, arI E 122 (fun _ => 0)), (q4, arI E 122 (fun _ => 0)), (q5, arI E 7 (fun _ => 0))]) inc_X4_init tyX4 tyX4_ok nmX4 0 rfl rfl 4 (by decide) (by decide +kernel) rfl rfl (tyX4_ok 4 (by decide)) rfl rfl (Nat.le_of_ble_eq_true rfl) rfl rfl dX4_init_41 ?_
  refine GN.aload_n hX 0 rfl dX4_init_44 ?_
  refine GN.bipush hX (v := 12) (by decide) dX4_init_45 ?_
  refine GN.newI hX (n := 12) (by decide +kernel) (by decide) (by decide) (by decide) (by decide) dX4_init_47 (fun q6 => ?_)
  refine GN.putF hX hin (ws' := [(a, .inr (4, [.ref q1, .ref q2, .ref q3, .ref q4, .ref q5, .int 0, .ref q6, .int 0, .int 0, .null, .int 0, .int 0, .int 0, .int 0, .int 0, .null, .null, .null, .null])), (q1, arI E 122 (fun _ => 0)), (q2, arI E 122 (fun _ => 0)), (q3, arI E 122 (fun _ => 0)), (q4, arI E 122 (fun _ => 0)), (q5, arI E 7 (fun _ => 0)), (q6, arI E 12 (fun _ => 0))]) inc_X4_init tyX4 tyX4_ok nmX4 0 rfl rfl 6 (by decide) (by decide +kernel) rfl rfl (tyX4_ok 6 (by decide)) rfl rfl (Nat.le_of_ble_eq_true rfl) rfl rfl dX4_init_49 ?_
  refine GN.aload_n hX 0 rfl dX4_init_52 ?_
  refine GN.bipush hX (v := 120) (by decide) dX4_init_53 ?_
  refine GN.newI hX (n := 120) (by decide +kernel) (by decide) (by decide) (by decide) (by decide) dX4_init_55 (fun q7 => ?_)
  refine GN.putF hX hin (ws' := [(a, .inr (4, [.ref q1, .ref q2, .ref q3, .ref q4, .ref q5, .int 0, .ref q6, .int 0, .int 0, .ref q7, .int 0, .int 0, .int 0, .int 0, .int 0, .null, .null, .null, .null])), (q1, arI E 122 (fun _ => 0)), (q2, arI E 122 (fun _ => 0)), (q3, arI E 122 (fun _ => 0)), (q4, arI E 122 (fun _ => 0)), (q5, arI E 7 (fun _ => 0)), (q6, arI E 12 (fun _ => 0)), (q7, arI E 120 (fun _ => 0))]) inc_X4_init tyX4 tyX4_ok nmX4 0 rfl rfl 9 (by decide) (by decide +kernel) rfl rfl (tyX4_ok 9 (by decide)) rfl rfl (Nat.le_of_ble_eq_true rfl) rfl rfl dX4_init_57 ?_
  refine GN.aload_n hX 0 rfl dX4_init_60 ?_
  refine GN.iconst hX (v := 4) (by decide) dX4_init_61 ?_
  refine GN.newI hX (n := 4) (by decide +kernel) (by decide) (by decide) (by decide) (by decide) dX4_init_62 (fun q8 => ?_)
  refine GN.putF hX hin (ws' := [(a, .inr (4, [.ref q1, .ref q2, .ref q3, .ref q4, .ref q5, .int 0, .ref q6, .int 0, .int 0, .ref q7, .int 0, .int 0, .int 0, .int 0, .int 0, .ref q8, .null, .null, .null])), (q1, arI E 122 (fun _ => 0)), (q2, arI E 122 (fun _ => 0)), (q3, arI E 122 (fun _ => 0)), (q4, arI E 122 (fun _ => 0)), (q5, arI E 7 (fun _ => 0)), (q6, arI E 12 (fun _ => 0)), (q7, arI E 120 (fun _ => 0)), (q8, arI E 4 (fun _ => 0))]) inc_X4_init tyX4 tyX4_ok nmX4 0 rfl rfl 15 (by decide) (by decide +kernel) rfl rfl (tyX4_ok 15 (by decide)) rfl rfl (Nat.le_of_ble_eq_true rfl) rfl rfl dX4_init_64 ?_
  refine GN.aload_n hX 0 rfl dX4_init_67 ?_
  refine GN.iconst hX (v := 4) (by decide) dX4_init_68 ?_
  refine GN.newI hX (n := 4) (by decide +kernel) (by decide) (by decide) (by decide) (by decide) dX4_init_69 (fun q9 => ?_)
  refine GN.putF hX hin (ws' := [(a, .inr (4, [.ref q1, .ref q2, .ref q3, .ref q4, .ref q5, .int 0, .ref q6, .int 0, .int 0, .ref q7, .int 0, .int 0, .int 0, .int 0, .int 0, .ref q8, .ref q9, .null, .null])), (q1, arI E 122 (fun _ => 0)), (q2, arI E 122 (fun _ => 0)), (q3, arI E 122 (fun _ => 0)), (q4, arI E 122 (fun _ => 0)), (q5, arI E 7 (fun _ => 0)), (q6, arI E 12 (fun _ => 0)), (q7, arI E 120 (fun _ => 0)), (q8, arI E 4 (fun _ => 0)), (q9, arI E 4 (fun _ => 0))]) inc_X4_init tyX4 tyX4_ok nmX4 0 rfl rfl 16 (by decide) (by decide +kernel) rfl rfl (tyX4_ok 16 (by decide)) rfl rfl (Nat.le_of_ble_eq_true rfl) rfl rfl dX4_init_71 ?_
  refine GN.aload_n hX 0 rfl dX4_init_74 ?_
  refine GN.sipush hX (v := 160) (by decide) dX4_init_75 ?_
  refine GN.newJ hX (n := 160) (by decide +kernel) (by decide) (by decide) (by decide) (by decide) dX4_init_78 (fun q10 => ?_)
  refine GN.putF hX hin (ws' := [(a, .inr (4, [.ref q1, .ref q2, .ref q3, .ref q4, .ref q5, .int 0, .ref q6, .int 0, .int 0, .ref q7, .int 0, .int 0, .int 0, .int 0, .int 0, .ref q8, .ref q9, .ref q10, .null])), (q1, arI E 122 (fun _ => 0)), (q2, arI E 122 (fun _ => 0)), (q3, arI E 122 (fun _ => 0)), (q4, arI E 122 (fun _ => 0)), (q5, arI E 7 (fun _ => 0)), (q6, arI E 12 (fun _ => 0)), (q7, arI E 120 (fun _ => 0)), (q8, arI E 4 (fun _ => 0)), (q9, arI E 4 (fun _ => 0)), (q10, arJ E 160 (fun _ => 0))]) inc_X4_init tyX4 tyX4_ok nmX4 0 rfl rfl 17 (by decide) (by decide +kernel) rfl rfl (tyX4_ok 17 (by decide)) rfl rfl (Nat.le_of_ble_eq_true rfl) rfl rfl dX4_init_80 ?_
  refine GN.aload_n hX 0 rfl dX4_init_83 ?_
  refine GN.bipush hX (v := 40) (by decide) dX4_init_84 ?_
  refine GN.newJ hX (n := 40) (by decide +kernel) (by decide) (by decide) (by decide) (by decide) dX4_init_86 (fun q11 => ?_)
  refine GN.putF hX hin (ws' := [(a, .inr (4, [.ref q1, .ref q2, .ref q3, .ref q4, .ref q5, .int 0, .ref q6, .int 0, .int 0, .ref q7, .int 0, .int 0, .int 0, .int 0, .int 0, .ref q8, .ref q9, .ref q10, .ref q11])), (q1, arI E 122 (fun _ => 0)), (q2, arI E 122 (fun _ => 0)), (q3, arI E 122 (fun _ => 0)), (q4, arI E 122 (fun _ => 0)), (q5, arI E 7 (fun _ => 0)), (q6, arI E 12 (fun _ => 0)), (q7, arI E 120 (fun _ => 0)), (q8, arI E 4 (fun _ => 0)), (q9, arI E 4 (fun _ => 0)), (q10, arJ E 160 (fun _ => 0)), (q11, arJ E 40 (fun _ => 0))]) inc_X4_init tyX4 tyX4_ok nmX4 0 rfl rfl 18 (by decide) (by decide +kernel) rfl rfl (tyX4_ok 18 (by decide)) rfl rfl (Nat.le_of_ble_eq_true rfl) rfl rfl dX4_init_88 ?_
  refine GN.aload_n hX 0 rfl dX4_init_91 ?_
  refine GN.get hX inc_X4_init 0 rfl rfl 0 (by decide) (by decide +kernel) rfl dX4_init_92 ?_
  refine GN.iconst hX (v := 1) (by decide) dX4_init_95 ?_
  refine GN.bipush hX (v := 63) (by decide) dX4_init_96 ?_
  refine GN.iast hX (j := 1) (ws' := [(a, .inr (4, [.ref q1, .ref q2, .ref q3, .ref q4, .ref q5, .int 0, .ref q6, .int 0, .int 0, .ref q7, .int 0, .int 0, .int 0, .int 0, .int 0, .ref q8, .ref q9, .ref q10, .ref q11])), (q1, arI E 122 (upd (fun _ => 0) 1 63)), (q2, arI E 122 (fun _ => 0)), (q3, arI E 122 (fun _ => 0)), (q4, arI E 122 (fun _ => 0)), (q5, arI E 7 (fun _ => 0)), (q6, arI E 12 (fun _ => 0)), (q7, arI E 120 (fun _ => 0)), (q8, arI E 4 (fun _ => 0)), (q9, arI E 4 (fun _ => 0)), (q10, arJ E 160 (fun _ => 0)), (q11, arJ E 40 (fun _ => 0))]) 1 rfl (by decide) (by decide) rfl rfl dX4_init_98 ?_
  refine GN.iconst hX (v := 0) (by decide) dX4_init_99 ?_
  refine GN.istore_n hX (lv' := [(1, .int 0), (0, .ref a)]) rfl (by decide) rfl dX4_init_100 ?_
  refine GN.wide (kc' := 11) (ks' := 835) (by decide) (by decide) ?_
  let o : Nat → Nat := fun j => match j with | 0 => a | 1 => q1 | 2 => q2 | 3 => q3 | 4 => q4 | 5 => q5 | 6 => q6 | 7 => q7 | 8 => q8 | 9 => q9 | 10 => q10 | _ => q11
  have L : ∀ (n t : Nat), t ≤ 12 → 13 ≤ t + n → GN 11 835 E X 2 101 [(1, .int (nI t)), (0, .ref (o 0))] [] [(o 0, moO o 0 0 0 0 0 0 0 0), (o 1, arI E 122 (it st0S t (upd (fun _ => 0) 1 63))), (o 2, arI E 122 (fun _ => 0)), (o 3, arI E 122 (fun _ => 0)), (o 4, arI E 122 (fun _ => 0)), (o 5, arI E 7 (fun _ => 0)), (o 6, arI E 12 (fun _ => 0)), (o 7, arI E 120 (fun _ => 0)), (o 8, arI E 4 (fun _ => 0)), (o 9, arI E 4 (fun _ => 0)), (o 10, arJ E 160 (fun _ => 0)), (o 11, arJ E 40 (fun _ => 0))] := by
    intro n
    induction n with
    | zero => intro t h1 h2; exact absurd h2 (by omega)
    | succ n ih =>
      intro t h1 h2
      refine GN.iload_n hX 0 rfl dX4_init_101 ?_
      refine GN.bipush hX (v := 12) (by decide) dX4_init_102 ?_
      refine GN.n_ge hX (a := t) (b := 12) (tgt := 121) (by omega) (by omega) (by decide) dX4_init_104 (fun c => ?_) (fun c => ?_)
      · obtain rfl : t = 12 := by omega
        exact GN.vretN hX hQ (fun _ j => o j) rfl dX4_init_121 rfl
      · refine GN.aload_n hX 1 rfl dX4_init_107 ?_
        refine GN.iload_n hX 0 rfl dX4_init_108 ?_
        refine GN.iconst hX (v := 0) (by decide) dX4_init_109 ?_
        refine GN.bipush hX (v := 40) (by decide) dX4_init_110 ?_
        refine GN.vv hX (As := [.int (nI t), .int 0, .int 40]) (st := []) (wr := [(o 2, arI E 122 (fun _ => 0)), (o 3, arI E 122 (fun _ => 0)), (o 4, arI E 122 (fun _ => 0)), (o 5, arI E 7 (fun _ => 0)), (o 6, arI E 12 (fun _ => 0)), (o 7, arI E 120 (fun _ => 0)), (o 8, arI E 4 (fun _ => 0)), (o 9, arI E 4 (fun _ => 0)), (o 10, arJ E 160 (fun _ => 0)), (o 11, arJ E 40 (fun _ => 0))]) (wf := [(o 0, moO o 0 0 0 0 0 0 0 0), (o 1, arI E 122 (it st0S (t + 1) (upd (fun _ => 0) 1 63))), (o 2, arI E 122 (fun _ => 0)), (o 3, arI E 122 (fun _ => 0)), (o 4, arI E 122 (fun _ => 0)), (o 5, arI E 7 (fun _ => 0)), (o 6, arI E 12 (fun _ => 0)), (o 7, arI E 120 (fun _ => 0)), (o 8, arI E 4 (fun _ => 0)), (o 9, arI E 4 (fun _ => 0)), (o 10, arJ E 160 (fun _ => 0)), (o 11, arJ E 40 (fun _ => 0))]) (q0 := 0) (ci := 4) rfl rfl (c_X4_sets _ E (t := t) (k := 0) (ag := 40) (o := o) (ik := 0) (be := 0) (so := 0) (tp := 0) (fr := 0) (tq := 0) (vl := 0) (wr := 0) (s := it st0S t (upd (fun _ => 0) 1 63)) (h1 := c)) gX4_init_X4_sets cp_X4_sets ⟨by decide, by decide⟩ (by decide) [0, 1] [2, 3, 4, 5, 6, 7, 8, 9, 10, 11] [10, 11, 0, 1, 2, 3, 4, 5, 6, 7, 8, 9] ⟨rfl, rfl, by decide, by rw [it_s]; rfl⟩ rfl rfl (Nat.le_of_ble_eq_true rfl) dX4_init_112 ?_
        refine GN.iinc hX (n := 1) (lv' := [(1, .int (nI (t + 1))), (0, .ref (o 0))]) 0 rfl (inc_nI t 1 rfl) (by decide) rfl dX4_init_115 ?_
        refine GN.goto hX (tgt := 101) (by decide) dX4_init_118 ?_
        exact ih (t + 1) (by omega) (by omega)
  exact L 13 0 (by omega) (by omega)
