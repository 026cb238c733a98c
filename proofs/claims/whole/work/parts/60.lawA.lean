/-! ===== the law: what holds at its start ===== -/
theorem mem_t {w : Cond} (i : Nat) (h : lw_tbl[i]? = some w) : w ∈ lw_tbl := List.mem_of_getElem? h
abbrev jsM (i : Nat) : Term := .string RX2 (jsP.getD i 0)
abbrev jsF (i : Nat) : Term := .field (jsM i) "java/lang/String" "value" "[B"
theorem fl_ex : ∀ i, i < 11 → Cond.exactly (jsM i) "java/lang/String" ∈ flatC (Jvm.Cond.and given_1 narrow_1) := by decide +kernel
theorem fl_co : ∀ i, i < 11 → Cond.eq (.field (jsM i) "java/lang/String" "coder" "B") (.int 0) ∈ flatC (Jvm.Cond.and given_1 narrow_1) := by decide +kernel
theorem fl_ar : ∀ i, i < 11 → Cond.arrayOf (jsF i) .byte ∈ flatC (Jvm.Cond.and given_1 narrow_1) := by decide +kernel
theorem fl_le : ∀ i, i < 11 → Cond.eq (.length (jsF i)) (.int (Int32.ofNat (jsL.getD i 0))) ∈ flatC (Jvm.Cond.and given_1 narrow_1) := by decide +kernel
theorem fl_el : ∀ i, i < 11 → ∀ j, j < jsL.getD i 0 → Cond.eq (.elem (jsF i) (.int (Int32.ofNat j))) (.int ((jsB.getD i []).getD j 0)) ∈ flatC (Jvm.Cond.and given_1 narrow_1) := by decide +kernel
theorem fl_ne : ∀ i, i < 11 → ∀ j, j < 11 → i ≠ j → Cond.not (Cond.eq (jsM i) (jsM j)) ∈ flatC (Jvm.Cond.and given_1 narrow_1) ∨ Cond.not (Cond.eq (jsM j) (jsM i)) ∈ flatC (Jvm.Cond.and given_1 narrow_1) := by decide +kernel
theorem fl_z1 : Cond.eq (.static "java/lang/String" "COMPACT_STRINGS" "Z") (.int 1) ∈ flatC (Jvm.Cond.and given_1 narrow_1) := by decide +kernel
theorem fl_z2 : Cond.isRef (.static "jdk/internal/util/Preconditions" "SIOOBE_FORMATTER" "Ljava/util/function/BiFunction;") ∈ flatC (Jvm.Cond.and given_1 narrow_1) := by decide +kernel
theorem tb_sr : ∀ i, i < 11 → Cond.stringRef RX2 (jsP.getD i 0) (jsT.getD i "") ∈ lw_tbl := by decide +kernel
theorem tb_n1 : Cond.methodLinkNest RX0 43 yX3_treeAt RX3 ∈ lw_tbl := by decide +kernel
theorem tb_n2 : Cond.methodLinkNest RX2 71 yX3_treeAt RX3 ∈ lw_tbl := by decide +kernel
theorem tb_n3 : Cond.methodLinkNest RX3 31 yX2_init RX3 ∈ lw_tbl := by decide +kernel
theorem tb_n4 : Cond.methodLinkNest RX3 49 yX1_init RX3 ∈ lw_tbl := by decide +kernel
theorem tb_ao : Cond.arrayOver (.object RX1) ∈ lw_tbl := by decide +kernel
theorem tb_a0 : Cond.arrayClass .int ∈ lw_tbl := by decide +kernel
theorem tb_a1 : Cond.arrayClass .long ∈ lw_tbl := by decide +kernel
theorem tb_a2 : Cond.arrayClass .byte ∈ lw_tbl := by decide +kernel
theorem tb_i0 : Cond.instantiable RX0 6 ∈ lw_tbl := by decide +kernel
theorem tb_i1 : Cond.instantiable RX1 3 ∈ lw_tbl := by decide +kernel
theorem tb_i2 : Cond.instantiable RX2 6 ∈ lw_tbl := by decide +kernel
theorem tb_i3 : Cond.instantiable RX3 9 ∈ lw_tbl := by decide +kernel
theorem tb_i4 : Cond.instantiable RX4 19 ∈ lw_tbl := by decide +kernel
theorem tb_z1 : Cond.laysStatic "java/lang/String" "COMPACT_STRINGS" "Z" ∈ lw_tbl := by decide +kernel
theorem tb_z2 : Cond.initialized "java/lang/String" ∈ lw_tbl := by decide +kernel
theorem tb_z3 : Cond.laysStatic "jdk/internal/util/Preconditions" "SIOOBE_FORMATTER" "Ljava/util/function/BiFunction;" ∈ lw_tbl := by decide +kernel
theorem tb_z4 : Cond.initialized "jdk/internal/util/Preconditions" ∈ lw_tbl := by decide +kernel
theorem arr_sp {s : State} {args : Array Value} {ty : FieldType} (h : (Cond.arrayClass ty).before args s = true) : ∃ cA, ArrOfT s cA ty ∧ s.vm.findClass ("[" ++ ty.toString) = some cA := by
  obtain ⟨cA, kA, comp, h1, h2, h3⟩ := Cond.arrayClass_spec h
  exact ⟨cA, fun n z => ⟨fun k h => (by cases h), kA, h2, comp, h3⟩, h1⟩
theorem law_kK {s : State} {args : Array Value} (hts : ∀ w ∈ lw_tbl, w.before args s = true) (hgv : (Jvm.Cond.and given_1 narrow_1).before args s = true) : ∃ E : EV, kK E (fun q => s.heap.size ≤ q) s ∧ xK s := by
  have hs := flat_of_before _ hgv
  have hA : ∀ a : Nat, a < s.heap.size → ¬ (fun q : Nat => s.heap.size ≤ q) a := fun a h => Nat.not_le.mpr h
  obtain ⟨c0, i0, k0⟩ := u_known (C := RX0) (T := TX0) (N := 6) (n := 6) hts in_wsX00 (hts _ tb_i0)
  obtain ⟨c1, i1, k1⟩ := u_known (C := RX1) (T := TX1) (N := 3) (n := 3) hts in_wsX10 (hts _ tb_i1)
  obtain ⟨c2, i2, k2⟩ := u_known (C := RX2) (T := TX2) (N := 6) (n := 6) hts in_wsX20 (hts _ tb_i2)
  obtain ⟨c3, i3, k3⟩ := u_known (C := RX3) (T := TX3) (N := 9) (n := 9) hts in_wsX30 (hts _ tb_i3)
  obtain ⟨c4, i4, k4⟩ := u_known (C := RX4) (T := TX4) (N := 19) (n := 19) hts in_wsX40 (hts _ tb_i4)
  obtain ⟨a0, o0, f0⟩ := arr_sp (hts _ tb_a0)
  obtain ⟨a1, o1, f1⟩ := arr_sp (hts _ tb_a1)
  obtain ⟨a2, o2, f2⟩ := arr_sp (hts _ tb_a2)
  obtain ⟨comp, a3, kA, g1, g2, g3, g4, g5⟩ := Cond.arrayOver_spec (hts _ tb_ao)
  obtain ⟨aK, aV, hV, hE⟩ := vk_Sof (args := args) (s := s) (N := 11) (tm := jsM) (len := jsL) (byt := jsB) (A := fun q => s.heap.size ≤ q) (fun i _ => jsL_small i) (fun i hi => hs _ (fl_ex i hi)) (fun i hi => hs _ (fl_co i hi)) (fun i hi => hs _ (fl_ar i hi)) (fun i hi => hs _ (fl_le i hi)) (fun i hi j hj => hs _ (fl_el i hi j hj)) (fun i j hi hj hij => (fl_ne i hi j hj hij).imp (fun h => hs _ h) (fun h => hs _ h)) hA
  let E : EV := ((fun k => match k with | 0 => c0 | 1 => c1 | 2 => c2 | 3 => c3 | _ => c4, fun k => match k with | 0 => i0 | 1 => i1 | 2 => i2 | 3 => i3 | _ => i4), (fun k => match k with | 0 => a0 | 1 => a1 | 2 => a2 | _ => a3), fun k => if k % 2 = 0 then aK (k / 2) else aV (k / 2))
  have eK : (adK E : Nat → Nat) = aK := by
    funext i
    show (if 2 * i % 2 = 0 then aK (2 * i / 2) else aV (2 * i / 2)) = aK i
    rw [if_pos (by omega)]
    congr 1; omega
  have eV : (adV E : Nat → Nat) = aV := by
    funext i
    show (if (2 * i + 1) % 2 = 0 then aK ((2 * i + 1) / 2) else aV ((2 * i + 1) / 2)) = aV i
    rw [if_neg (by omega)]
    congr 1; omega
  refine ⟨E, ⟨⟨?_, ?_⟩, va_Nw.of rfl (hts _ tb_n1), va_Nw.of rfl (hts _ tb_n2), ?_, ?_, va_Zof (hts _ tb_z1) (hts _ tb_z2) (va_eqt (hs _ fl_z1)) hA, va_Zqof (hts _ tb_z3) (hts _ tb_z4) (hs _ fl_z2) hA⟩, va_AO.of (hts _ tb_ao), va_Nw.of rfl (hts _ tb_n3), va_Nw.of rfl (hts _ tb_n4)⟩
  · intro k q hq
    match k, hq with
    | 0, hq => cases hq; exact k0
    | 1, hq => cases hq; exact k1
    | 2, hq => cases hq; exact k2
    | 3, hq => cases hq; exact k3
    | 4, hq => cases hq; exact k4
    | k + 5, hq => simp at hq
  · intro k q hq
    match k, hq with
    | 0, hq => cases hq; exact ⟨o0, f0⟩
    | 1, hq => cases hq; exact ⟨o1, f1⟩
    | 2, hq => cases hq; exact ⟨o2, f2⟩
    | 3, hq => cases hq; exact ⟨fun N z => ⟨(fun k h => by cases h), kA, g3, comp, g4⟩, kA, comp, g3, g4, g1, g5⟩
    | k + 4, hq => simp at hq
  · rw [eK, eV]; exact hV
  · intro i hi
    have : adK E i = aK i := congrFun eK i
    rw [this]
    exact vk_R.of (hts _ (tb_sr i hi)) (hE i hi)
-- two worlds side by side
theorem cut_app (wa wb w1 : va_W) : Cut (wa ++ wb) wa wb w1 (wb ++ w1) (List.range wa.length) (List.range' wa.length wb.length) (List.range (wb ++ w1).length) := by
  refine ⟨?_, ?_, ⟨g_nd _, g_ndup List.nodup_range', g_nd _, fun i hi h => ?_⟩, g_all _⟩
  · rw [← g_all wa]
    refine List.map_congr_left (fun i hi => ?_)
    rw [List.getElem?_append_left (List.mem_range.mp hi)]
  · rw [← g_all wb, List.range'_eq_map_range, List.map_map]
    refine List.map_congr_left (fun i hi => ?_)
    show (wa ++ wb)[wa.length + i]? = _
    rw [List.getElem?_append_right (by omega), Nat.add_sub_cancel_left]
  · have h1 := List.mem_range.mp h
    rw [List.range'_eq_map_range, List.mem_map] at hi
    obtain ⟨j, _, rfl⟩ := hi
    omega
theorem INV.h3 {E : EV} {ad : AD} {w3 w4 : va_W} (h : INV E ad w3 w4) : ∃ fs, w3[0]? = some (ad 0 0, .inr (3, fs)) := by
  obtain ⟨kp, r, ke, tr, br, li, c, sa, en, tp, vl, by8, bts, szs, nus, fo, be, so, fr, tq, vm, wr, s, kes, ot, asd, ge, tap, bo, szz, nu, mv, rfl, rfl, -⟩ := h
  exact ⟨_, rfl⟩
theorem INV.h4 {E : EV} {ad : AD} {w3 w4 : va_W} (h : INV E ad w3 w4) : ∃ fs, w4[0]? = some (ad 6 0, .inr (4, fs)) := by
  obtain ⟨kp, r, ke, tr, br, li, c, sa, en, tp, vl, by8, bts, szs, nus, fo, be, so, fr, tq, vm, wr, s, kes, ot, asd, ge, tap, bo, szz, nu, mv, rfl, rfl, -⟩ := h
  exact ⟨_, rfl⟩
-- the start of both
theorem st0_i : ∀ i, (it st0S i (upd (fun _ => 0) 1 63)) 0 = 0 ∧ (it st0S i (upd (fun _ => 0) 1 63)) 1 = 63 ∧ ∀ t, t < i → (it st0S i (upd (fun _ => 0) 1 63)) (2 + 10 * t) = 0 ∧ (it st0S i (upd (fun _ => 0) 1 63)) (2 + 10 * t + 1) = 40 ∧ ∀ m, m < 8 → (it st0S i (upd (fun _ => 0) 1 63)) (2 + 10 * t + (2 + m)) = -1 := by
  intro i
  induction i with
  | zero => exact ⟨rfl, rfl, fun t h => absurd h (by omega)⟩
  | succ i ih =>
    obtain ⟨h1, h2, h3⟩ := ih
    rw [it_s, st0S, ms_sets]
    generalize it st0S i (upd (fun _ => 0) 1 63) = x at h1 h2 h3 ⊢
    have hz := sets_i (upd (upd x (2 + 10 * i) 0) (2 + 10 * i + 1) 40) i 8 (Nat.le_refl 8)
    refine ⟨?_, ?_, fun t ht => ⟨?_, ?_, fun m hm => ?_⟩⟩
    · rw [hz.2 0 (fun m _ => by omega), pk_un (by omega), pk_un (by omega)]; exact h1
    · rw [hz.2 1 (fun m _ => by omega), pk_un (by omega), pk_un (by omega)]; exact h2
    · rw [hz.2 _ (fun m _ => by omega), pk_un (by omega)]
      by_cases e : t = i
      · subst e; rw [pk_us]
      · rw [pk_un (by omega)]; exact (h3 t (by omega)).1
    · rw [hz.2 _ (fun m _ => by omega)]
      by_cases e : t = i
      · subst e; rw [pk_us]
      · rw [pk_un (by omega), pk_un (by omega)]; exact (h3 t (by omega)).2.1
    · by_cases e : t = i
      · subst e; rw [hz.1 m hm, if_pos hm]
      · rw [hz.2 _ (fun m _ => by omega), pk_un (by omega), pk_un (by omega)]; exact (h3 t (by omega)).2.2 m hm
theorem RXs : RX AV0 st0 := by
  have h := st0_i 12
  refine ⟨0, by omega, ⟨⟨⟨0, by omega, rfl⟩, ⟨63, by omega, rfl⟩, fun t ht => ⟨⟨0, by omega, rfl⟩, ⟨40, by omega, rfl⟩, ⟨0, by omega, rfl⟩⟩, fun i hi => ⟨0, by omega, rfl⟩⟩, h.1, h.2.1, fun t ht => ⟨(h.2.2 t ht).1, ⟨Or.inr (h.2.2 t ht).2.1, fun _ => (h.2.2 t ht).2.1⟩, fun m hm _ => ?_⟩⟩, rfl⟩
  have e : av_k AV0 t m = false := by
    show bt 0 m = false
    exact bt_0 m (by omega)
  rw [sn, e]
  exact (h.2.2 t ht).2.2 m hm
theorem INV0 {E : EV} {u v : AD} : INV E (fun i => if i = 6 then v 6 else u i) (W3 E u 0 AV0 AV0 AV0 AV0 (fun _ => 0) 0 0 0 0 0 (fun _ => 0) (fun _ => 0) (fun _ => 0) (fun _ _ => 0) (fun _ => 0)) (W4 E v 0 0 0 0 0 0 0 0 st0 (fun _ => 0) (fun _ => 0) (fun _ => 0) (fun _ => 0) (fun _ => 0) (fun _ => 0) (fun _ => 0) (fun _ => 0) (fun _ => 0) (fun _ => 0)) := by
  refine ⟨false, AV0, AV0, AV0, AV0, fun _ => 0, 0, 0, 0, 0, 0, fun _ => 0, fun _ => 0, fun _ => 0, fun _ _ => 0, fun _ => 0, 0, 0, 0, 0, 0, 0, st0, fun _ => 0, fun _ => 0, fun _ => 0, fun _ => 0, fun _ => 0, fun _ => 0, fun _ => 0, fun _ => 0, fun _ => 0, ?_, rfl, RXs, fun h => absurd h (by decide), by omega, fun j hj => absurd hj (by omega), fun j hj => ⟨rfl, rfl, ⟨0, by omega, rfl⟩, fun i hi => rfl⟩⟩
  have e : (fun j => (fun i => if i = 6 then v 6 else u i) (7 + j)) = fun j => u (7 + j) := by
    funext j
    show (if 7 + j = 6 then v 6 else u (7 + j)) = _
    rw [if_neg (by omega)]
  unfold W3
  rw [e]
  rfl
