/-! THE CLAIM OUT OF ONE WALK OF THE LAW'S BODY. Your part is whole_start (and what it stands on); all else here is the same for every law, but numbers. -/
def R_law : String := "AvenueNodsLaw"
def lw_P (b : Addr) (xs : List Int32) (args : Array Value) (s : State) : Prop := args = #[.ref b] ∧ s.IntsAt b xs ∧ xs.length ≤ 3072 ∧ (Jvm.Cond.and given_1 narrow_1).before args s = true
def lw_Q (_ : Array Value) (s : State) (o : Outcome) (t : State) : Prop := o = .returned (some (.int 1)) ∧ Framed s o t [] 600000 7302250
def lw_Z (below : List Frame) (a : Array Value) (s : State) : State → Prop := fun t => ∃ o, t.status = .running ∧ Ended t below o ∧ lw_Q a s o t
/-- the law's own end, with 1 on the stack, nothing written that was there before, its room as the claim has it -/
theorem lw_ret {p : Program} {l : Launch} {e : Env} {s : State} {m : MethodId} {below : List Frame} {meth : Method} {c : Code} {b : Nat} (hx : p.tables.exec = Jvm.exec) (hb : c.code = code) (hr : meth.sig.returnType = ret) (hlocks : meth.locks = false) {pc : Nat} {H : Heap} {ls : Array Slot} (hdg : decode code pc = .ok (.ireturn, 1)) : W p l e room_1 s m #[Value.ref b] below meth c H [] 600000 7302250 (lw_Z below #[Value.ref b] s) (F0 m pc ls [.int 1]) := by
  intro T hT X
  obtain ⟨fs, hret, hrun, hended, hW, hframe⟩ := X.leave (v := some (.int 1)) (hlocks := hlocks) (fun h => by rw [hr] at h; cases h)
  have hmeth' : T.vm.method? m = some meth := X.method'
  refine ⟨T.setFrames fs, ?_, .returned (some (.int 1)), hrun, hended, rfl, ⟨_, rfl⟩, hW, hframe⟩
  jvm_step X.here [X.here.top, hx, hb, hdg, hmeth', hr, ret, narrow_b1]
  (try refine ⟨rfl, ?_⟩); (try refine ⟨rfl, ?_⟩)
  first | (intro acts; rw [hret _ acts rfl rfl rfl]) | rw [hret _ _ rfl rfl rfl]
  exact Steps.refl _
/-- what holds at the law's entry: the machine, the code, the tables' words (any of lw_tbl by 'hts w (by decide +kernel)'), the script of L ints xs at the cell b, what the Statement gives of the start (any of its parts by flat_of_before) -/
def lw_At (p : Program) (s : State) (m : MethodId) (meth : Method) (c : Code) (b L : Nat) (xs : Nat → Int32) : Prop :=
  p.tables.exec = Jvm.exec ∧ c.code = code ∧ meth.sig.returnType = ret ∧ c.maxLocals = 4 ∧ s.vm.findClass R_law = some m.cls ∧ (∀ w ∈ lw_tbl, w.before #[Value.ref b] s = true) ∧ va_X b L xs s s.heap ∧ b < s.heap.size ∧ meth.locks = false ∧ (Jvm.Cond.and given_1 narrow_1).before #[Value.ref b] s = true
/-! ===== the law: its loop, its start ===== -/
theorem lp_c {L i : Nat} (hL : L ≤ 3072) (hi : i ≤ L) (h : ¬ nI L - 6 < nI i) : i + 6 ≤ L := by
  rw [Int32.lt_iff_toInt_lt, show (6 : Int32) = nI 6 from rfl, pk_sub_toInt (by omega) (by omega), nI_toInt (by omega)] at h
  omega
set_option maxHeartbeats 4000000 in
set_option maxRecDepth 100000 in
theorem law_loop {E : EV} {X : CX} (hX : Cx E X RL code 4 ret wsL_law room_1) {ad : AD} {b L : Nat} {xs : Nat → Int32} (hL : L ≤ 3072) (hXs : va_X b L xs X.2.2.2.2.1 X.2.2.2.2.1.heap) (hbl : b < X.2.2.2.2.1.heap.size) (hbA : ¬ X.2.2.2.2.2.2.2.2.2.2.2 b) (hend : ∀ (lv : List (Nat × Value)) (ws : va_W), GN 600000 7302250 E X 4 1228 lv [.int 1] ws) : ∀ (n i : Nat) (w3 w4 : va_W), i ≤ L → L + 1 ≤ i + n → INV E ad w3 w4 → GN 600000 7302250 E X 4 18 [(3, .int (nI i)), (2, .ref (ad 6 0)), (1, .ref (ad 0 0)), (0, .ref b)] [] (w3 ++ w4) := by
  intro n
  induction n with
  | zero => intro i w3 w4 h1 h2 _; exact absurd h2 (by omega)
  | succ n ih =>
    intro i w3 w4 h1 h2 hI
    refine GN.iload_n hX 0 rfl dL_law_18 ?_
    refine GN.aload_n hX 3 rfl dL_law_19 ?_
    refine GN.slen hX hXs hbl hbA dL_law_20 ?_
    refine GN.bipush hX (v := 6) (by decide) dL_law_21 ?_
    refine GN.isub hX dL_law_23 ?_
    refine GN.icmp_gt hX (tgt := 1227) (by decide) dL_law_24 (fun _ => ?_) (fun hc => ?_)
    · refine GN.iconst hX (v := 1) (by decide) dL_law_1227 ?_
      exact hend _ _
    · have hi := lp_c hL h1 hc
      have kont : ∀ u3 u4, INV E ad u3 u4 → GN 600000 7302250 E X 4 1221 [(3, .int (nI i)), (2, .ref (ad 6 0)), (1, .ref (ad 0 0)), (0, .ref b)] [] (u3 ++ u4) := by
        intro u3 u4 hJ
        refine GN.iinc hX (n := 6) (lv' := [(3, .int (nI (i + 6))), (2, .ref (ad 6 0)), (1, .ref (ad 0 0)), (0, .ref b)]) 0 rfl (inc_nI i 6 rfl) (by decide) rfl dL_law_1221 ?_
        refine GN.goto hX (tgt := 18) (by decide) dL_law_1224 ?_
        exact ih (i + 6) u3 u4 hi (by omega) hJ
      refine GN.aload_n hX 3 rfl dL_law_27 ?_
      refine GN.iload_n hX 0 rfl dL_law_28 ?_
      refine GN.sld hX (j := i) hXs hbl hbA (by omega) (by omega) dL_law_29 ?_
      refine GN.bipush hX (v := 63) (by decide) dL_law_30 ?_
      refine GN.iand hX dL_law_32 ?_
      obtain ⟨j, hj, ej⟩ := pk_andE (xs i) (m := 63) 6 (by decide)
      refine GN.ie (y := nI j) ej ?_
      by_cases h36 : 36 ≤ j
      · refine GN.tout hX (tgt := 1221) dL_law_33 (Or.inr (by rw [nI_toInt (by omega)]; omega)) (by decide) ?_
        exact kont w3 w4 hI
      · match j, h36 with
        | 0, _ => exact GN.tin hX (tgt := 192) dL_law_33 (by decide) (by decide) rfl (by decide) (lc_of hX hL hXs hbl hbA hi hI kont)
        | 1, _ => exact GN.tin hX (tgt := 225) dL_law_33 (by decide) (by decide) rfl (by decide) (lc_since hX hL hXs hbl hbA hi hI kont)
        | 2, _ => exact GN.tin hX (tgt := 258) dL_law_33 (by decide) (by decide) rfl (by decide) (lc_plant hX hL hXs hbl hbA hi hI kont)
        | 3, _ => exact GN.tin hX (tgt := 291) dL_law_33 (by decide) (by decide) rfl (by decide) (lc_turn hX hL hXs hbl hbA hi hI kont)
        | 4, _ => exact GN.tin hX (tgt := 324) dL_law_33 (by decide) (by decide) rfl (by decide) (lc_age hX hL hXs hbl hbA hi hI kont)
        | 5, _ => exact GN.tin hX (tgt := 357) dL_law_33 (by decide) (by decide) rfl (by decide) (lc_as hX hL hXs hbl hbA hi hI kont)
        | 6, _ => exact GN.tin hX (tgt := 390) dL_law_33 (by decide) (by decide) rfl (by decide) (lc_meet hX hL hXs hbl hbA hi hI kont)
        | 7, _ => exact GN.tin hX (tgt := 423) dL_law_33 (by decide) (by decide) rfl (by decide) (lc_tell hX hL hXs hbl hbA hi hI kont)
        | 8, _ => exact GN.tin hX (tgt := 456) dL_law_33 (by decide) (by decide) rfl (by decide) (lc_forget hX hL hXs hbl hbA hi hI kont)
        | 9, _ => exact GN.tin hX (tgt := 479) dL_law_33 (by decide) (by decide) rfl (by decide) (lc_years hX hL hXs hbl hbA hi hI kont)
        | 10, _ => exact GN.tin hX (tgt := 502) dL_law_33 (by decide) (by decide) rfl (by decide) (lc_gale hX hL hXs hbl hbA hi hI kont)
        | 11, _ => exact GN.tin hX (tgt := 515) dL_law_33 (by decide) (by decide) rfl (by decide) (lc_now hX hL hXs hbl hbA hi hI kont)
        | 12, _ => exact GN.tin hX (tgt := 538) dL_law_33 (by decide) (by decide) rfl (by decide) (lc_on hX hL hXs hbl hbA hi hI kont)
        | 13, _ => exact GN.tin hX (tgt := 571) dL_law_33 (by decide) (by decide) rfl (by decide) (lc_when hX hL hXs hbl hbA hi hI kont)
        | 14, _ => exact GN.tin hX (tgt := 604) dL_law_33 (by decide) (by decide) rfl (by decide) (lc_home hX hL hXs hbl hbA hi hI kont)
        | 15, _ => exact GN.tin hX (tgt := 627) dL_law_33 (by decide) (by decide) rfl (by decide) (lc_last hX hL hXs hbl hbA hi hI kont)
        | 16, _ => exact GN.tin hX (tgt := 650) dL_law_33 (by decide) (by decide) rfl (by decide) (lc_introduce hX hL hXs hbl hbA hi hI kont)
        | 17, _ => exact GN.tin hX (tgt := 673) dL_law_33 (by decide) (by decide) rfl (by decide) (lc_lime hX hL hXs hbl hbA hi hI kont)
        | 18, _ => exact GN.tin hX (tgt := 696) dL_law_33 (by decide) (by decide) rfl (by decide) (lc_kind hX hL hXs hbl hbA hi hI kont)
        | 19, _ => exact GN.tin hX (tgt := 729) dL_law_33 (by decide) (by decide) rfl (by decide) (lc_delay hX hL hXs hbl hbA hi hI kont)
        | 20, _ => exact GN.tin hX (tgt := 752) dL_law_33 (by decide) (by decide) rfl (by decide) (lc_side hX hL hXs hbl hbA hi hI kont)
        | 21, _ => exact GN.tin hX (tgt := 775) dL_law_33 (by decide) (by decide) rfl (by decide) (lc_needed hX hL hXs hbl hbA hi hI kont)
        | 22, _ => exact GN.tin hX (tgt := 798) dL_law_33 (by decide) (by decide) rfl (by decide) (lc_feed hX hL hXs hbl hbA hi hI kont)
        | 23, _ => exact GN.tin hX (tgt := 831) dL_law_33 (by decide) (by decide) rfl (by decide) (lc_wipe hX hL hXs hbl hbA hi hI kont)
        | 24, _ => exact GN.tin hX (tgt := 844) dL_law_33 (by decide) (by decide) rfl (by decide) (lc_avenue hX hL hXs hbl hbA hi hI kont)
        | 25, _ => exact GN.tin hX (tgt := 857) dL_law_33 (by decide) (by decide) rfl (by decide) (lc_sheet hX hL hXs hbl hbA hi hI kont)
        | 26, _ => exact GN.tin hX (tgt := 900) dL_law_33 (by decide) (by decide) rfl (by decide) (lc_write hX hL hXs hbl hbA hi hI kont)
        | 27, _ => exact GN.tin hX (tgt := 974) dL_law_33 (by decide) (by decide) rfl (by decide) (lc_copy hX hL hXs hbl hbA hi hI kont)
        | 28, _ => exact GN.tin hX (tgt := 1037) dL_law_33 (by decide) (by decide) rfl (by decide) (lc_lays hX hL hXs hbl hbA hi hI kont)
        | 29, _ => exact GN.tin hX (tgt := 1060) dL_law_33 (by decide) (by decide) rfl (by decide) (lc_book hX hL hXs hbl hbA hi hI kont)
        | 30, _ => exact GN.tin hX (tgt := 1093) dL_law_33 (by decide) (by decide) rfl (by decide) (lc_read hX hL hXs hbl hbA hi hI kont)
        | 31, _ => exact GN.tin hX (tgt := 1136) dL_law_33 (by decide) (by decide) rfl (by decide) (lc_image hX hL hXs hbl hbA hi hI kont)
        | 32, _ => exact GN.tin hX (tgt := 1149) dL_law_33 (by decide) (by decide) rfl (by decide) (lc_undo hX hL hXs hbl hbA hi hI kont)
        | 33, _ => exact GN.tin hX (tgt := 1162) dL_law_33 (by decide) (by decide) rfl (by decide) (lc_tear hX hL hXs hbl hbA hi hI kont)
        | 34, _ => exact GN.tin hX (tgt := 1175) dL_law_33 (by decide) (by decide) rfl (by decide) (lc_count hX hL hXs hbl hbA hi hI kont)
        | 35, _ => exact GN.tin hX (tgt := 1198) dL_law_33 (by decide) (by decide) rfl (by decide) (lc_status hX hL hXs hbl hbA hi hI kont)
        | j + 36, h => exact absurd (show 36 ≤ j + 36 by omega) h
set_option maxHeartbeats 4000000 in
set_option maxRecDepth 100000 in
theorem whole_start {p : Program} {e : Env} {s : State} {m : MethodId} {below : List Frame} {meth : Method} {c : Code} (l : Launch) {b L : Nat} {xs : Nat → Int32} (hL : L ≤ 3072) (C0 : lw_At p s m meth c b L xs) : W p l e room_1 s m #[Value.ref b] below meth c s.heap [] 0 0 (lw_Z below #[Value.ref b] s) (entryFrame m ([Value.ref b] : List Value).toArray 4) := by
  obtain ⟨hx, hb, hr, hml, hown, hts, hXs, hbl, hlocks, hgv⟩ := C0
  obtain ⟨E, hK, hxk⟩ := law_kK hts hgv
  have hl := lv_entry ([.ref b]) (n := 4) (Nat.le_of_ble_eq_true rfl)
  rw [lg_entry_eq]
  let X : CX := (p, l, e, room_1, s, m, #[Value.ref b], below, meth, c, lw_Z below #[Value.ref b] s, fun q => s.heap.size ≤ q)
  have hX : Cx E X RL code 4 ret wsL_law room_1 := ⟨hx, hb, hml, hown, fun w hw => hts w (wsL_law_in w hw), hK, fun q h => h, hr, hlocks, rfl⟩
  have hbA : ¬ (fun q : Nat => s.heap.size ≤ q) b := Nat.not_le.mpr hbl
  have hend : ∀ (lv : List (Nat × Value)) (ws : va_W), GN 600000 7302250 E X 4 1228 lv [.int 1] ws := by
    intro lv ws H locs ls hP hD hS hl
    exact va_forget (fun q hq => hS.2.2 q hq) (lw_ret hx hb hr hlocks dL_law_1228)
  have G0 : GN 0 0 E X 4 0 [(0, .ref b)] [] [] := by
    refine GN.new hX (ci := 3) (fs := [.null, .null, .null, .null, .null, .null, .null, .null, .int 0]) inlX3 tyX3 tyX3_ok (by decide +kernel) (by decide +kernel) (by decide +kernel) rfl dfX3 (by decide) (by decide) dL_law_0 (fun q3 => ?_)
    refine GN.dup hX rfl dL_law_3 ?_
    refine GN.cI hX hxk (wr := []) (c_X3_init _ E q3) gL_law_X3_init (by decide +kernel) (by decide +kernel) (by decide +kernel) rfl rfl rfl rfl (by decide +kernel) (by decide) (by decide) (by decide) [0] [] rfl rfl (by decide) (Nat.le_of_ble_eq_true rfl) dL_law_4 (fun u hu => ?_)
    subst hu
    refine GN.astore_n hX (lv' := [(1, .ref (u 0 0)), (0, .ref b)]) rfl (by decide) rfl dL_law_7 ?_
    refine GN.new hX (ci := 4) (fs := [.null, .null, .null, .null, .null, .int 0, .null, .int 0, .int 0, .null, .int 0, .int 0, .int 0, .int 0, .int 0, .null, .null, .null, .null]) inlX4 tyX4 tyX4_ok (by decide +kernel) (by decide +kernel) (by decide +kernel) rfl dfX4 (by decide) (by decide) dL_law_8 (fun q4 => ?_)
    refine GN.dup hX rfl dL_law_11 ?_
    refine GN.cI hX hxk (wr := W3 E u 0 AV0 AV0 AV0 AV0 (fun _ => 0) 0 0 0 0 0 (fun _ => 0) (fun _ => 0) (fun _ => 0) (fun _ _ => 0) (fun _ => 0)) (c_X4_init _ E q4) gL_law_X4_init (by decide +kernel) (by decide +kernel) (by decide +kernel) rfl rfl rfl rfl (by decide +kernel) (by decide) (by decide) (by decide) [34] [0, 1, 2, 3, 4, 5, 6, 7, 8, 9, 10, 11, 12, 13, 14, 15, 16, 17, 18, 19, 20, 21, 22, 23, 24, 25, 26, 27, 28, 29, 30, 31, 32, 33] rfl rfl (by decide) (Nat.le_of_ble_eq_true rfl) dL_law_12 (fun v hv => ?_)
    subst hv
    refine GN.astore_n hX (lv' := [(2, .ref (v 6 0)), (1, .ref (u 0 0)), (0, .ref b)]) rfl (by decide) rfl dL_law_15 ?_
    refine GN.iconst hX (v := 0) (by decide) dL_law_16 ?_
    refine GN.istore_n hX (lv' := [(3, .int 0), (2, .ref (v 6 0)), (1, .ref (u 0 0)), (0, .ref b)]) rfl (by decide) rfl dL_law_17 ?_
    refine GN.wide (kc' := 600000) (ks' := 7302250) (by decide) (by decide) ?_
    exact law_loop (ad := fun i => if i = 6 then v 6 else u i) hX hL hXs hbl hbA hend (L + 1) 0 _ _ (Nat.zero_le _) (by omega) INV0
  exact G0 s.heap [] _ (fun k q h => by simp at h) ⟨fun i j p q h => by simp at h, fun k q h => by simp at h⟩ va_S.rf hl
