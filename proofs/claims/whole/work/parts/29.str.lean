/-! ===== texts: rows and the JDK's methods ===== -/
section GS
variable {E : EV} {X : CX} {own : String} {cc : ByteArray} {nL : Nat} {rt : Option FieldType} {Ts : List Cond} {rm : Room} {pc : Nat} {lv lv' : List (Nat × Value)} {st : List Value} {ws ws' : va_W}
theorem G.kval (hX : Cx E X own cc nL rt Ts rm) {index : Nat} (i : Nat) (hi : i < 11) (hlink : Cond.fieldLink own index "java/lang/String" "value" "[B" ∈ Ts) (hd : decode cc pc = .ok (.getfield index, 3)) (k : G E X nL (pc + 3) lv (.ref (adV E i) :: st) ws) : G E X nL pc lv (.ref (adK E i) :: st) ws := by
  obtain ⟨p, l, e, R, s, m, args, below, meth, c, Q, A⟩ := X
  obtain ⟨hx, hb, hml, hown, hts, hK, hA, hr, hlocks, hR⟩ := hX
  intro H locs ls hP hD hS hl
  exact vk_getf hx hb (hK.2.2.2.1.1 i hi).2.2.1 hS hown (hts _ hlink) (fun _ h => h) hd (k H locs ls hP hD hS hl)
theorem G.kcod (hX : Cx E X own cc nL rt Ts rm) {index : Nat} (i : Nat) (hi : i < 11) (hlink : Cond.fieldLink own index "java/lang/String" "coder" "B" ∈ Ts) (hd : decode cc pc = .ok (.getfield index, 3)) (k : G E X nL (pc + 3) lv (.int 0 :: st) ws) : G E X nL pc lv (.ref (adK E i) :: st) ws := by
  obtain ⟨p, l, e, R, s, m, args, below, meth, c, Q, A⟩ := X
  obtain ⟨hx, hb, hml, hown, hts, hK, hA, hr, hlocks, hR⟩ := hX
  intro H locs ls hP hD hS hl
  exact vk_getf hx hb (hK.2.2.2.1.1 i hi).2.1 hS hown (hts _ hlink) (fun _ h => h) hd (k H locs ls hP hD hS hl)
theorem G.kstat (hX : Cx E X own cc nL rt Ts rm) {index : Nat} (hlink : Cond.fieldLink own index "java/lang/String" "COMPACT_STRINGS" "Z" ∈ Ts) (hd : decode cc pc = .ok (.getstatic index, 3)) (k : G E X nL (pc + 3) lv (.int 1 :: st) ws) : G E X nL pc lv st ws := by
  obtain ⟨p, l, e, R, s, m, args, below, meth, c, Q, A⟩ := X
  obtain ⟨hx, hb, hml, hown, hts, hK, hA, hr, hlocks, hR⟩ := hX
  intro H locs ls hP hD hS hl
  exact va_gets hx hb hK.2.2.2.2.2.1 hS hown (hts _ hlink) (fun _ h => h) hd (k H locs ls hP hD hS hl)
theorem G.kfmt (hX : Cx E X own cc nL rt Ts rm) {index : Nat} (hlink : Cond.fieldLink own index "jdk/internal/util/Preconditions" "SIOOBE_FORMATTER" "Ljava/util/function/BiFunction;" ∈ Ts) (hd : decode cc pc = .ok (.getstatic index, 3)) (k0 : G E X nL (pc + 3) lv (.null :: st) ws) (k1 : ∀ t : Nat, G E X nL (pc + 3) lv (.ref t :: st) ws) : G E X nL pc lv st ws := by
  obtain ⟨p, l, e, R, s, m, args, below, meth, c, Q, A⟩ := X
  obtain ⟨hx, hb, hml, hown, hts, hK, hA, hr, hlocks, hR⟩ := hX
  intro H locs ls hP hD hS hl
  rcases hK.2.2.2.2.2.2 with h | ⟨t, h⟩
  · exact va_gets hx hb h hS hown (hts _ hlink) (fun _ h => h) hd (k0 H locs ls hP hD hS hl)
  · exact va_gets hx hb h hS hown (hts _ hlink) (fun _ h => h) hd (k1 t H locs ls hP hD hS hl)
theorem G.klen (hX : Cx E X own cc nL rt Ts rm) (i : Nat) (hi : i < 11) (hd : decode cc pc = .ok (.arraylength, 1)) (k : G E X nL (pc + 1) lv (.int (nI (jsL.getD i 0)) :: st) ws) : G E X nL pc lv (.ref (adV E i) :: st) ws := by
  obtain ⟨p, l, e, R, s, m, args, below, meth, c, Q, A⟩ := X
  obtain ⟨hx, hb, hml, hown, hts, hK, hA, hr, hlocks, hR⟩ := hX
  intro H locs ls hP hD hS hl
  exact va_tlen hx hb (hK.2.2.2.1.1 i hi).2.2.2 hS rfl hd (k H locs ls hP hD hS hl)
theorem G.kbald (hX : Cx E X own cc nL rt Ts rm) {j : Nat} (i : Nat) (hi : i < 11) (hj : j < jsL.getD i 0) (hn : jsL.getD i 0 < 2 ^ 31) (hd : decode cc pc = .ok (.baload, 1)) (k : G E X nL (pc + 1) lv (.int ((jsB.getD i []).getD j 0) :: st) ws) : G E X nL pc lv (.int (nI j) :: .ref (adV E i) :: st) ws := by
  obtain ⟨p, l, e, R, s, m, args, below, meth, c, Q, A⟩ := X
  obtain ⟨hx, hb, hml, hown, hts, hK, hA, hr, hlocks, hR⟩ := hX
  intro H locs ls hP hD hS hl
  exact va_tb hx hb (hK.2.2.2.1.1 i hi).2.2.2 hS (vp_in_nI hj hn) (by rw [nI_clamp (by omega)]) hd (k H locs ls hP hD hS hl)
theorem G.i2c (hX : Cx E X own cc nL rt Ts rm) {x v : Int32} (hv : (x.toUInt32 % 65536).toInt32 = v) (hd : decode cc pc = .ok (.i2c, 1)) (k : G E X nL (pc + 1) lv (.int v :: st) ws) : G E X nL pc lv (.int x :: st) ws := by
  obtain ⟨p, l, e, R, s, m, args, below, meth, c, Q, A⟩ := X
  obtain ⟨hx, hb, hml, hown, hts, hK, hA, hr, hlocks, hR⟩ := hX
  intro H locs ls hP hD hS hl
  exact lv_i2c hx hb hd hv (k H locs ls hP hD hS hl)
/-- a call on a text -/
theorem G.kvi (hX : Cx E X own cc nL rt Ts rm) {index maxL n i : Nat} {y : MethodName} {wy : List Cond} {ry : Room} {As : List Value} {r : Int32} {st0 : List Value} (hi : i < 11) (hM : CI X.2.1 y wy ry E (.ref (adK E i) :: As) [] [] r) (hG : GoodIn Ts (wsV own index RJ0 y wy)) (hcp : CP y RJ0 wy maxL n ry) (hRR : ry.frames + 1 ≤ rm.frames ∧ 8 + (maxL + 11) + ry.locals ≤ rm.locals) (hst : st0 = As.reverse ++ .ref (adK E i) :: st) (hn : As.length = n) (hrs0 : (st.map fun v => v.category).sum ≤ 8) (hd : decode cc pc = .ok (.invokevirtual index, 3)) (k : G E X nL (pc + 3) lv (.int r :: st) ws) : G E X nL pc lv st0 ws := by
  obtain ⟨p, l, e, R, s, m, args, below, meth, c, Q, A⟩ := X
  obtain ⟨hx, hb, hml, hown, hts, hK, hA, hr, hlocks, hR⟩ := hX
  dsimp only at hx hb hml hown hts hK hA hR
  obtain ⟨⟨bytes, ret, wy', hwy⟩, hrc, hrs, hdd⟩ := hcp
  intro H locs ls hP hD hS hl
  dsimp only at hD hS ⊢
  have hR1 : ry.frames + 1 ≤ R.frames := by rw [hR]; exact hRR.1
  have hR2 : 8 + (maxL + 11) + ry.locals ≤ R.locals := by rw [hR]; exact hRR.2
  have hPc : va_P E.1 vwCl [] H := fun k q h => by simp at h
  have hDc : va_D A ([] : va_W) := ⟨fun i j p q h => by simp at h, fun k q h => by simp at h⟩
  have hFc := va_free (wc := []) hD hS hA [] rfl
  refine va_calli (A1 := va_A [] H.size) (mc := 0) (ms := 0) (rest := st) (va_runV (As := As) (rest := st) ⟨hx, hb, hml, hown, hts⟩ (hM H.size) (cwV n hts hG hwy hrc hrs hdd ⟨hR1, hR2⟩) ⟨fun a U g mk q => by obtain ⟨q0, q1, qP, qK, qD⟩ := q; exact ⟨q0, q1, qP, qK.calling, qD⟩, vk_recv hK.2.2.2.1 hi hS, fun U hU hW => ⟨rfl, by rw [hU], by rw [hU]; exact hPc, hK.call hS hU hW hFc, hDc.weaken (fun _ _ _ _ => trivial)⟩⟩ rfl hn hl.1 hst (lv_room hrs0) hd ⟨Nat.zero_le _, Nat.zero_le _⟩) hS (fun q _ h => hFc q h) hFc (fun r2 u t H1 locs1 ht hvm hw hB hz1 hk1 hS1 => ?_)
  obtain ⟨hP1, hD1⟩ := hB
  subst hw
  rw [ht] at hP1
  have hj := va_join (wc := []) (w1 := []) hP hD [] (List.range ws.length) rfl (g_all ws) (g_nd _) (fun _ _ h => by cases h) hk1 hFc hP1 hD1
  rw [List.append_nil] at hj
  exact k H1 locs1 ls hj.1 hj.2 hS1 hl
end GS
abbrev rmJ0_coder_7d493 : Room := { frames := 0, cells := 0, slots := 0, locals := 0 }
theorem cp_J0_coder_7d493 : CP yJ0_coder_7d493 RJ0 wsJ0_coder_7d493 1 0 rmJ0_coder_7d493 := ⟨⟨_, _, _, rfl⟩, rfl, rfl, by decide +kernel⟩
theorem c_J0_coder_7d493 (l : Launch) (E : EV) (i : Nat) (hi : i < 11) : CI l yJ0_coder_7d493 wsJ0_coder_7d493 rmJ0_coder_7d493 E [.ref (adK E i)] [] [] 0 := by
  refine CI.of (own := RJ0) (cc := cJ0_coder_7d493) (nL := 1) (rt := (some .byte)) (by decide) rfl rfl (Nat.le_of_ble_eq_true rfl) (fun X hX hQ => ?_)
  show G E X 1 0 [(0, .ref (adK E i))] [] []
  refine G.kstat hX (by decide +kernel) dJ0_coder_7d493_0 ?_
  refine G.if_eq hX (tgt := 13) (by decide) dJ0_coder_7d493_3 (fun c => absurd c (by decide)) (fun _ => ?_)
  refine G.aload_n hX 0 rfl dJ0_coder_7d493_6 ?_
  refine G.kcod hX i hi (by decide +kernel) dJ0_coder_7d493_7 ?_
  refine G.goto hX (tgt := 14) (by decide) dJ0_coder_7d493_10 ?_
  exact G.zret hX hQ rfl dJ0_coder_7d493_14 rfl rfl
abbrev rmJ0_length_8abf5 : Room := { frames := 1, cells := 0, slots := 0, locals := 20 }
theorem cp_J0_length_8abf5 : CP yJ0_length_8abf5 RJ0 wsJ0_length_8abf5 1 0 rmJ0_length_8abf5 := ⟨⟨_, _, _, rfl⟩, rfl, rfl, by decide +kernel⟩
theorem c_J0_length_8abf5 (l : Launch) (E : EV) (i : Nat) (hi : i < 11) : CI l yJ0_length_8abf5 wsJ0_length_8abf5 rmJ0_length_8abf5 E [.ref (adK E i)] [] [] (nI (jsL.getD i 0)) := by
  refine CI.of (own := RJ0) (cc := cJ0_length_8abf5) (nL := 1) (rt := (some .int)) (by decide) rfl rfl (Nat.le_of_ble_eq_true rfl) (fun X hX hQ => ?_)
  show G E X 1 0 [(0, .ref (adK E i))] [] []
  refine G.aload_n hX 0 rfl dJ0_length_8abf5_0 ?_
  refine G.kval hX i hi (by decide +kernel) dJ0_length_8abf5_1 ?_
  refine G.klen hX i hi dJ0_length_8abf5_4 ?_
  refine G.aload_n hX 0 rfl dJ0_length_8abf5_5 ?_
  refine G.kvi hX (As := []) (st := [.int (nI (jsL.getD i 0))]) hi (c_J0_coder_7d493 _ E i hi) gJ0_length_8abf5_J0_coder_7d493 cp_J0_coder_7d493 (by decide) rfl rfl (Nat.le_of_ble_eq_true rfl) dJ0_length_8abf5_6 ?_
  refine G.ishr hX dJ0_length_8abf5_9 ?_
  exact G.iret hX hQ dJ0_length_8abf5_10 (sb_shr0 _) rfl
abbrev rmJ0_isLatin1_aae02 : Room := { frames := 0, cells := 0, slots := 0, locals := 0 }
theorem cp_J0_isLatin1_aae02 : CP yJ0_isLatin1_aae02 RJ0 wsJ0_isLatin1_aae02 1 0 rmJ0_isLatin1_aae02 := ⟨⟨_, _, _, rfl⟩, rfl, rfl, by decide +kernel⟩
theorem c_J0_isLatin1_aae02 (l : Launch) (E : EV) (i : Nat) (hi : i < 11) : CI l yJ0_isLatin1_aae02 wsJ0_isLatin1_aae02 rmJ0_isLatin1_aae02 E [.ref (adK E i)] [] [] 1 := by
  refine CI.of (own := RJ0) (cc := cJ0_isLatin1_aae02) (nL := 1) (rt := (some .boolean)) (by decide) rfl rfl (Nat.le_of_ble_eq_true rfl) (fun X hX hQ => ?_)
  show G E X 1 0 [(0, .ref (adK E i))] [] []
  refine G.kstat hX (by decide +kernel) dJ0_isLatin1_aae02_0 ?_
  refine G.if_eq hX (tgt := 17) (by decide) dJ0_isLatin1_aae02_3 (fun c => absurd c (by decide)) (fun _ => ?_)
  refine G.aload_n hX 0 rfl dJ0_isLatin1_aae02_6 ?_
  refine G.kcod hX i hi (by decide +kernel) dJ0_isLatin1_aae02_7 ?_
  refine G.if_ne hX (tgt := 17) (by decide) dJ0_isLatin1_aae02_10 (fun c => absurd rfl c) (fun _ => ?_)
  refine G.iconst hX (v := 1) (by decide) dJ0_isLatin1_aae02_13 ?_
  refine G.goto hX (tgt := 18) (by decide) dJ0_isLatin1_aae02_14 ?_
  exact G.zret hX hQ rfl dJ0_isLatin1_aae02_18 rfl rfl
abbrev rmJ3_checkIndex_8e157 : Room := { frames := 0, cells := 0, slots := 0, locals := 0 }
theorem cp_J3_checkIndex_8e157 : CP yJ3_checkIndex_8e157 RJ3 wsJ3_checkIndex_8e157 3 3 rmJ3_checkIndex_8e157 := ⟨⟨_, _, _, rfl⟩, rfl, rfl, by decide +kernel⟩
theorem c_J3_checkIndex_8e157 (l : Launch) (E : EV) (k z t : Nat) (h1 : k < z) (h2 : z < 2 ^ 31) : CI l yJ3_checkIndex_8e157 wsJ3_checkIndex_8e157 rmJ3_checkIndex_8e157 E [.int (nI k), .int (nI z), .ref t] [] [] (nI k) ∧ CI l yJ3_checkIndex_8e157 wsJ3_checkIndex_8e157 rmJ3_checkIndex_8e157 E [.int (nI k), .int (nI z), .null] [] [] (nI k) := by
  constructor
  · refine CI.of (own := RJ3) (cc := cJ3_checkIndex_8e157) (nL := 3) (rt := (some .int)) (by decide) rfl rfl (Nat.le_of_ble_eq_true rfl) (fun X hX hQ => ?_)
    show G E X 3 0 [(0, .int (nI k)), (1, .int (nI z)), (2, .ref t)] [] []
    refine G.iload_n hX 0 rfl dJ3_checkIndex_8e157_0 ?_
    refine G.if_lt hX (tgt := 9) (by decide) dJ3_checkIndex_8e157_1 (fun c => absurd c (nI_pos (by omega))) (fun _ => ?_)
    refine G.iload_n hX 0 rfl dJ3_checkIndex_8e157_4 ?_
    refine G.iload_n hX 1 rfl dJ3_checkIndex_8e157_5 ?_
    refine G.n_lt hX (a := k) (b := z) (tgt := 16) (by omega) (by omega) (by decide) dJ3_checkIndex_8e157_6 (fun _ => ?_) (fun c => absurd h1 (by omega))
    refine G.iload_n hX 0 rfl dJ3_checkIndex_8e157_16 ?_
    exact G.iret hX hQ dJ3_checkIndex_8e157_17 rfl rfl
  · refine CI.of (own := RJ3) (cc := cJ3_checkIndex_8e157) (nL := 3) (rt := (some .int)) (by decide) rfl rfl (Nat.le_of_ble_eq_true rfl) (fun X hX hQ => ?_)
    show G E X 3 0 [(0, .int (nI k)), (1, .int (nI z)), (2, .null)] [] []
    refine G.iload_n hX 0 rfl dJ3_checkIndex_8e157_0 ?_
    refine G.if_lt hX (tgt := 9) (by decide) dJ3_checkIndex_8e157_1 (fun c => absurd c (nI_pos (by omega))) (fun _ => ?_)
    refine G.iload_n hX 0 rfl dJ3_checkIndex_8e157_4 ?_
    refine G.iload_n hX 1 rfl dJ3_checkIndex_8e157_5 ?_
    refine G.n_lt hX (a := k) (b := z) (tgt := 16) (by omega) (by omega) (by decide) dJ3_checkIndex_8e157_6 (fun _ => ?_) (fun c => absurd h1 (by omega))
    refine G.iload_n hX 0 rfl dJ3_checkIndex_8e157_16 ?_
    exact G.iret hX hQ dJ3_checkIndex_8e157_17 rfl rfl
abbrev rmJ0_checkIndex_df160 : Room := { frames := 1, cells := 0, slots := 0, locals := 22 }
theorem cp_J0_checkIndex_df160 : CP yJ0_checkIndex_df160 RJ0 wsJ0_checkIndex_df160 2 2 rmJ0_checkIndex_df160 := ⟨⟨_, _, _, rfl⟩, rfl, rfl, by decide +kernel⟩
theorem c_J0_checkIndex_df160 (l : Launch) (E : EV) (k z : Nat) (h1 : k < z) (h2 : z < 2 ^ 31) : CV l yJ0_checkIndex_df160 wsJ0_checkIndex_df160 rmJ0_checkIndex_df160 E [.int (nI k), .int (nI z)] [] [] := by
  refine CV.of (own := RJ0) (cc := cJ0_checkIndex_df160) (nL := 2) (rt := none) (by decide) rfl rfl (Nat.le_of_ble_eq_true rfl) (fun X hX hQ => ?_)
  show G E X 2 0 [(0, .int (nI k)), (1, .int (nI z))] [] []
  refine G.iload_n hX 0 rfl dJ0_checkIndex_df160_0 ?_
  refine G.iload_n hX 1 rfl dJ0_checkIndex_df160_1 ?_
  refine G.kfmt hX (by decide +kernel) dJ0_checkIndex_df160_2 ?_ (fun t => ?_)
  · refine G.s0i hX (As := [.int (nI k), .int (nI z), .null]) (st := []) (c_J3_checkIndex_8e157 _ E k z 0 h1 h2).2 gJ0_checkIndex_df160_J3_checkIndex_8e157 cp_J3_checkIndex_8e157 (by decide) rfl rfl (Nat.le_of_ble_eq_true rfl) dJ0_checkIndex_df160_5 ?_
    refine G.pop hX rfl dJ0_checkIndex_df160_8 ?_
    exact G.vret hX hQ dJ0_checkIndex_df160_9 rfl
  · refine G.s0i hX (As := [.int (nI k), .int (nI z), .ref t]) (st := []) (c_J3_checkIndex_8e157 _ E k z t h1 h2).1 gJ0_checkIndex_df160_J3_checkIndex_8e157 cp_J3_checkIndex_8e157 (by decide) rfl rfl (Nat.le_of_ble_eq_true rfl) dJ0_checkIndex_df160_5 ?_
    refine G.pop hX rfl dJ0_checkIndex_df160_8 ?_
    exact G.vret hX hQ dJ0_checkIndex_df160_9 rfl
/-- the char of a text -/
def jch (i k : Nat) : Int32 := (jsB.getD i []).getD k 0 &&& 255
theorem jsL_small : ∀ i, jsL.getD i 0 < 2 ^ 31 := by
  intro i
  by_cases h : i < 11
  · have : ∀ i, i < 11 → jsL.getD i 0 < 2 ^ 31 := by decide
    exact this i h
  · have e : jsL.getD i 0 = 0 := by
      rw [List.getD_eq_getElem?_getD, List.getElem?_eq_none (by simpa [jsL] using h)]; rfl
    rw [e]; omega
abbrev rmJ1_charAt_3b067 : Room := { frames := 2, cells := 0, slots := 0, locals := 43 }
theorem cp_J1_charAt_3b067 : CP yJ1_charAt_3b067 RJ1 wsJ1_charAt_3b067 2 2 rmJ1_charAt_3b067 := ⟨⟨_, _, _, rfl⟩, rfl, rfl, by decide +kernel⟩
theorem c_J1_charAt_3b067 (l : Launch) (E : EV) (i k : Nat) (hi : i < 11) (hk : k < jsL.getD i 0) : CI l yJ1_charAt_3b067 wsJ1_charAt_3b067 rmJ1_charAt_3b067 E [.ref (adV E i), .int (nI k)] [] [] (jch i k) := by
  have hsm := jsL_small i
  refine CI.of (own := RJ1) (cc := cJ1_charAt_3b067) (nL := 2) (rt := (some .char)) (by decide) rfl rfl (Nat.le_of_ble_eq_true rfl) (fun X hX hQ => ?_)
  show G E X 2 0 [(0, .ref (adV E i)), (1, .int (nI k))] [] []
  refine G.iload_n hX 1 rfl dJ1_charAt_3b067_0 ?_
  refine G.aload_n hX 0 rfl dJ1_charAt_3b067_1 ?_
  refine G.klen hX i hi dJ1_charAt_3b067_2 ?_
  refine G.sv hX (As := [.int (nI k), .int (nI (jsL.getD i 0))]) (st := []) (wr := []) (wf := []) (c_J0_checkIndex_df160 _ E k (jsL.getD i 0) hk hsm) gJ1_charAt_3b067_J0_checkIndex_df160 cp_J0_checkIndex_df160 (by decide) [] [] [] ⟨rfl, rfl, by decide, rfl⟩ rfl rfl (Nat.le_of_ble_eq_true rfl) dJ1_charAt_3b067_3 ?_
  refine G.aload_n hX 0 rfl dJ1_charAt_3b067_6 ?_
  refine G.iload_n hX 1 rfl dJ1_charAt_3b067_7 ?_
  refine G.kbald hX i hi hk hsm dJ1_charAt_3b067_8 ?_
  refine G.sipush hX (v := 255) (by decide) dJ1_charAt_3b067_9 ?_
  refine G.iand hX dJ1_charAt_3b067_12 ?_
  refine G.i2c hX (sc_c2 _) dJ1_charAt_3b067_13 ?_
  exact G.zret hX hQ (sc_nar _) dJ1_charAt_3b067_14 rfl rfl
abbrev rmJ0_charAt_5068e : Room := { frames := 3, cells := 0, slots := 0, locals := 64 }
theorem cp_J0_charAt_5068e : CP yJ0_charAt_5068e RJ0 wsJ0_charAt_5068e 2 1 rmJ0_charAt_5068e := ⟨⟨_, _, _, rfl⟩, rfl, rfl, by decide +kernel⟩
theorem c_J0_charAt_5068e (l : Launch) (E : EV) (i k : Nat) (hi : i < 11) (hk : k < jsL.getD i 0) : CI l yJ0_charAt_5068e wsJ0_charAt_5068e rmJ0_charAt_5068e E [.ref (adK E i), .int (nI k)] [] [] (jch i k) := by
  refine CI.of (own := RJ0) (cc := cJ0_charAt_5068e) (nL := 2) (rt := (some .char)) (by decide) rfl rfl (Nat.le_of_ble_eq_true rfl) (fun X hX hQ => ?_)
  show G E X 2 0 [(0, .ref (adK E i)), (1, .int (nI k))] [] []
  refine G.aload_n hX 0 rfl dJ0_charAt_5068e_0 ?_
  refine G.kvi hX (As := []) (st := []) hi (c_J0_isLatin1_aae02 _ E i hi) gJ0_charAt_5068e_J0_isLatin1_aae02 cp_J0_isLatin1_aae02 (by decide) rfl rfl (Nat.le_of_ble_eq_true rfl) dJ0_charAt_5068e_1 ?_
  refine G.if_eq hX (tgt := 16) (by decide) dJ0_charAt_5068e_4 (fun c => absurd c (by decide)) (fun _ => ?_)
  refine G.aload_n hX 0 rfl dJ0_charAt_5068e_7 ?_
  refine G.kval hX i hi (by decide +kernel) dJ0_charAt_5068e_8 ?_
  refine G.iload_n hX 1 rfl dJ0_charAt_5068e_11 ?_
  refine G.s0i hX (As := [.ref (adV E i), .int (nI k)]) (st := []) (c_J1_charAt_3b067 _ E i k hi hk) gJ0_charAt_5068e_J1_charAt_3b067 cp_J1_charAt_3b067 (by decide) rfl rfl (Nat.le_of_ble_eq_true rfl) dJ0_charAt_5068e_12 ?_
  exact G.zret hX hQ (sc_nar _) dJ0_charAt_5068e_15 rfl rfl
