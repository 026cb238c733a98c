/-! ===== contracts over the whole of each, and what ties them ===== -/
theorem kK.narrow {E : EV} {A B : Nat → Prop} {U : State} (h : kK E A U) (hBA : ∀ q, B q → A q) : kK E B U := by
  obtain ⟨h1, h2, h3, h4, h5, h6, h7⟩ := h
  exact ⟨h1, h2, h3, h4.narrow hBA, h5, h6.narrow hBA, h7.narrow hBA⟩
theorem CI.frame {l : Launch} {y : MethodName} {wy : List Cond} {rm : Room} {E : EV} {av : List Value} {wc w1 w0 wr wf : va_W} {r : Int32} (h : CI l y wy rm E av wc w1 r) (isC isR pm : List Nat) (hcut : Cut w0 wc wr w1 wf isC isR pm) : CI l y wy rm E av w0 wf r := by
  intro sz
  obtain ⟨hC, hRe, ⟨hn1, hn2, hn3, hdis⟩, hpf⟩ := hcut
  have hF0 : ∀ (U : State), U.heap.size = sz → va_D (fun _ => True) w0 → ∀ q, va_A wc sz q → va_A w0 sz q := by
    intro U hU hD
    have := va_free (hD.self (sz := sz)) (va_S.rf (H0 := U.heap)) (fun q hq => Or.inr (by rw [← hU]; exact hq)) isC hC
    rw [hU] at this
    exact this
  refine MetFree.mono (h sz) ?_ (fun _ _ _ _ _ h => h) ?_
  · intro a U hp
    obtain ⟨h1, h2, hP, hK, hD⟩ := hp
    exact ⟨h1, h2, hP.sub isC (g_fm hC), hK.narrow (hF0 U h2 hD), hD.sub isC hn1 hC⟩
  · intro a U o t hp hq
    obtain ⟨h1, h2, hP, hK, hD⟩ := hp
    obtain ⟨⟨⟨v, u, ho, hv, hP1, hD1⟩, hF⟩, L, hE, hL⟩ := hq
    have hFc := hF0 U h2 hD
    subst h2
    obtain ⟨hP2, hD2⟩ := va_join hP (hD.self (sz := U.heap.size)) isC isR hC hRe hn2 hdis hF.2 hFc hP1 hD1
    exact ⟨⟨⟨v, u, ho, hv, hP2.sub pm (g_fm hpf), hD2.sub pm hn3 hpf⟩, ⟨hF.1, fun q h1 h2 => hF.2 q h1 (fun h3 => h2 (hFc q h3))⟩⟩, L, hE, fun q hq => hFc _ (hL q hq)⟩
theorem CL.frame {l : Launch} {y : MethodName} {wy : List Cond} {rm : Room} {E : EV} {av : List Value} {wc w1 w0 wr wf : va_W} {r : Int64} (h : CL l y wy rm E av wc w1 r) (isC isR pm : List Nat) (hcut : Cut w0 wc wr w1 wf isC isR pm) : CL l y wy rm E av w0 wf r := by
  intro sz
  obtain ⟨hC, hRe, ⟨hn1, hn2, hn3, hdis⟩, hpf⟩ := hcut
  have hF0 : ∀ (U : State), U.heap.size = sz → va_D (fun _ => True) w0 → ∀ q, va_A wc sz q → va_A w0 sz q := by
    intro U hU hD
    have := va_free (hD.self (sz := sz)) (va_S.rf (H0 := U.heap)) (fun q hq => Or.inr (by rw [← hU]; exact hq)) isC hC
    rw [hU] at this
    exact this
  refine MetFree.mono (h sz) ?_ (fun _ _ _ _ _ h => h) ?_
  · intro a U hp
    obtain ⟨h1, h2, hP, hK, hD⟩ := hp
    exact ⟨h1, h2, hP.sub isC (g_fm hC), hK.narrow (hF0 U h2 hD), hD.sub isC hn1 hC⟩
  · intro a U o t hp hq
    obtain ⟨h1, h2, hP, hK, hD⟩ := hp
    obtain ⟨⟨⟨v, u, ho, hv, hP1, hD1⟩, hF⟩, L, hE, hL⟩ := hq
    have hFc := hF0 U h2 hD
    subst h2
    obtain ⟨hP2, hD2⟩ := va_join hP (hD.self (sz := U.heap.size)) isC isR hC hRe hn2 hdis hF.2 hFc hP1 hD1
    exact ⟨⟨⟨v, u, ho, hv, hP2.sub pm (g_fm hpf), hD2.sub pm hn3 hpf⟩, ⟨hF.1, fun q h1 h2 => hF.2 q h1 (fun h3 => h2 (hFc q h3))⟩⟩, L, hE, fun q hq => hFc _ (hL q hq)⟩
/-- the class's cells -/
def W3 (E : EV) (ad : Nat → Nat → Nat) (kp : Int32) (r ke tr br : AV) (li : Nat → Int32) (ln : Int32) (sa en tp : Nat) (vl : Int32) (by8 bts szs : Nat → Int32) (nus : Nat → Nat → Int64) (fo : Nat → Int32) : va_W :=
  [(ad 0 0, noO (ad 0) (ad 1) (ad 2) (ad 3) (ad 4) (ad 5) kp),
   (ad 1 0, avO (ad 1) r.1 r.2.1), (ad 1 1, arI E 12 r.2.2.1), (ad 1 2, arI E 12 r.2.2.2.1), (ad 1 3, arI E 12 r.2.2.2.2.1), (ad 1 4, arI E 96 r.2.2.2.2.2),
   (ad 2 0, avO (ad 2) ke.1 ke.2.1), (ad 2 1, arI E 12 ke.2.2.1), (ad 2 2, arI E 12 ke.2.2.2.1), (ad 2 3, arI E 12 ke.2.2.2.2.1), (ad 2 4, arI E 96 ke.2.2.2.2.2),
   (ad 3 0, avO (ad 3) tr.1 tr.2.1), (ad 3 1, arI E 12 tr.2.2.1), (ad 3 2, arI E 12 tr.2.2.2.1), (ad 3 3, arI E 12 tr.2.2.2.2.1), (ad 3 4, arI E 96 tr.2.2.2.2.2),
   (ad 4 0, avO (ad 4) br.1 br.2.1), (ad 4 1, arI E 12 br.2.2.1), (ad 4 2, arI E 12 br.2.2.2.1), (ad 4 3, arI E 12 br.2.2.2.2.1), (ad 4 4, arI E 96 br.2.2.2.2.2),
   (ad 0 1, arI E 12 li), (ad 5 0, txO (ad 5) ln (nI sa) (nI en) (nI tp) vl), (ad 5 1, arB E 120 by8), (ad 0 2, arO E 4 (shF (fun j => ad (7 + j)))),
   (ad 7 0, shO (ad 7) (bts 0) (szs 0)), (ad 7 1, arJ E 40 (nus 0)), (ad 8 0, shO (ad 8) (bts 1) (szs 1)), (ad 8 1, arJ E 40 (nus 1)), (ad 9 0, shO (ad 9) (bts 2) (szs 2)), (ad 9 1, arJ E 40 (nus 2)), (ad 10 0, shO (ad 10) (bts 3) (szs 3)), (ad 10 1, arJ E 40 (nus 3)),
   (ad 0 3, arI E 7 fo)]
/-- the reference's cells -/
def W4 (E : EV) (ad : Nat → Nat → Nat) (ik be so tp fr tq vl wr : Int32) (s ke ot asd fo ge tap bo szz : Nat → Int32) (nu mv : Nat → Int64) : va_W :=
  [(ad 6 0, moO (ad 6) ik be so tp fr tq vl wr), (ad 6 1, arI E 122 s), (ad 6 2, arI E 122 ke), (ad 6 3, arI E 122 ot), (ad 6 4, arI E 122 asd), (ad 6 5, arI E 7 fo), (ad 6 6, arI E 12 ge), (ad 6 7, arI E 120 tap), (ad 6 8, arI E 4 bo), (ad 6 9, arI E 4 szz), (ad 6 10, arJ E 160 nu), (ad 6 11, arJ E 40 mv)]
def RX (q : AV) (s : Nat → Int32) : Prop := ∃ Y, Y ≤ 9999 ∧ RT AL Y q s ∧ q.1 = nI Y
/-- the law's invariant -/
def INV (E : EV) (ad : Nat → Nat → Nat) (w3 w4 : va_W) : Prop := ∃ (kp : Bool) (r ke tr br : AV) (li : Nat → Int32) (c sa en tp : Nat) (vl : Int32) (by8 bts szs : Nat → Int32) (nus : Nat → Nat → Int64) (fo : Nat → Int32) (be so fr tq vm wr : Int32) (s kes ot asd ge tap bo szz : Nat → Int32) (nu mv : Nat → Int64), w3 = W3 E ad (bI kp) r ke tr br li (nI c) sa en tp vl by8 bts szs nus fo ∧ w4 = W4 E ad (bI kp) be so (nI c) fr tq vm wr s kes ot asd fo ge tap bo szz nu mv ∧ RX r s ∧ (kp = true → RX ke kes) ∧ c ≤ 120 ∧ TP by8 tap c ∧ RS bts szs nus bo szz nu
def BOI (l : Launch) (E : EV) (ad : Nat → Nat → Nat) (y3 : MethodName) (ws3 : List Cond) (rm3 : Room) (y4 : MethodName) (ws4 : List Cond) (rm4 : Room) (As : List Value) (w3 w4 : va_W) : Prop := ∃ (r : Int32) (u3 u4 : va_W), CI l y3 ws3 rm3 E (.ref (ad 0 0) :: As) w3 u3 r ∧ CI l y4 ws4 rm4 E (.ref (ad 6 0) :: As) w4 u4 r ∧ INV E ad u3 u4
def BOL (l : Launch) (E : EV) (ad : Nat → Nat → Nat) (y3 : MethodName) (ws3 : List Cond) (rm3 : Room) (y4 : MethodName) (ws4 : List Cond) (rm4 : Room) (As : List Value) (w3 w4 : va_W) : Prop := ∃ (r : Int64) (u3 u4 : va_W), CL l y3 ws3 rm3 E (.ref (ad 0 0) :: As) w3 u3 r ∧ CL l y4 ws4 rm4 E (.ref (ad 6 0) :: As) w4 u4 r ∧ INV E ad u3 u4
theorem BOI.mk {l : Launch} {E : EV} {ad : Nat → Nat → Nat} {y3 y4 : MethodName} {ws3 ws4 : List Cond} {rm3 rm4 : Room} {As : List Value} {w3 w4 u3 u4 : va_W} {r r' : Int32} (h3 : CI l y3 ws3 rm3 E (.ref (ad 0 0) :: As) w3 u3 r) (h4 : CI l y4 ws4 rm4 E (.ref (ad 6 0) :: As) w4 u4 r') (e : r = r') (hI : INV E ad u3 u4) : BOI l E ad y3 ws3 rm3 y4 ws4 rm4 As w3 w4 := by
  subst e
  exact ⟨r, u3, u4, h3, h4, hI⟩
theorem BOL.mk {l : Launch} {E : EV} {ad : Nat → Nat → Nat} {y3 y4 : MethodName} {ws3 ws4 : List Cond} {rm3 rm4 : Room} {As : List Value} {w3 w4 u3 u4 : va_W} {r r' : Int64} (h3 : CL l y3 ws3 rm3 E (.ref (ad 0 0) :: As) w3 u3 r) (h4 : CL l y4 ws4 rm4 E (.ref (ad 6 0) :: As) w4 u4 r') (e : r = r') (hI : INV E ad u3 u4) : BOL l E ad y3 ws3 rm3 y4 ws4 rm4 As w3 w4 := by
  subst e
  exact ⟨r, u3, u4, h3, h4, hI⟩
-- the relation of the real avenue, for the calls
theorem RX.rt {q : AV} {s : Nat → Int32} (h : RX q s) : RT AL 9999 q s := by
  obtain ⟨Y, hY, hr, -⟩ := h
  exact hr.mono hY
theorem RX.op {q x : AV} {s y : Nat → Int32} (h : RX q s) (hx : ∀ Y, Y ≤ 9999 → RT AL Y q s → RT AL Y x y) (h1 : x.1 = q.1) : RX x y := by
  obtain ⟨Y, hY, hr, e⟩ := h
  exact ⟨Y, hY, hx Y hY hr, h1.trans e⟩
theorem yr_one {mk : Int32} {Y : Nat} {q : AV} (hq : IV Y q) : (av_yr mk q).1 = q.1 + 1 := by
  show (av_yr1 mk q).1 + 1 = _
  rw [(yr1_yr (mk := mk) hq).1, av_age, (age_i q 12).1]
theorem ys_one {Y : Nat} {q : AV} {s : Nat → Int32} (h : RT AL Y q s) : ∀ n, Y + n < 2 ^ 30 → (av_ys 255 n q).1 = q.1 + nI n := by
  intro n
  induction n with
  | zero => intro _; show q.1 = q.1 + nI 0; rw [nI_0, Int32.add_zero]
  | succ n ih =>
    intro hn
    have e : av_ys 255 (n + 1) q = av_yr 255 (av_ys 255 n q) := by unfold av_ys; rw [it_s]
    rw [e, yr_one (h.ys al_bit n (by omega)).1, ih (by omega), Int32.add_assoc, nI_1]
theorem RX.ys {q : AV} {s : Nat → Int32} (h : RX q s) {n : Nat} (hn : n ≤ 100) (hle : q.1 + nI n ≤ 9999) : RX (av_ys 255 n q) (ms_ys n s) := by
  obtain ⟨Y, hY, hr, e⟩ := h
  rw [e, nI_add] at hle
  have h2 : Y + n ≤ 9999 := (nI_leI (b := 9999) (by omega) (by omega)).mp hle
  exact ⟨Y + n, h2, hr.ys al_bit n (by omega), by rw [ys_one hr n (by omega), e, nI_add]⟩
theorem upS_s {nus : Nat → Nat → Int64} {j : Nat} {f : Nat → Int64} : upS nus j f j = f := if_pos rfl
