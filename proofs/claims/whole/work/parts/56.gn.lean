/-! ===== the judgement GN: as G, with what has been made so far ===== -/
def GN (kc ks : Nat) (E : EV) (X : CX) (nL : Nat) (pc : Nat) (lv : List (Nat × Value)) (st : List Value) (ws : va_W) : Prop :=
  ∀ (H : Heap) (locs : List Loc) (ls : Array Slot), va_P E.1 vwCl ws H → va_D X.2.2.2.2.2.2.2.2.2.2.2 ws → va_S X.2.2.2.2.2.2.2.2.2.2.2 X.2.2.2.2.1.heap H locs → lv_has ls nL lv → W X.1 X.2.1 X.2.2.1 X.2.2.2.1 X.2.2.2.2.1 X.2.2.2.2.2.1 X.2.2.2.2.2.2.1 X.2.2.2.2.2.2.2.1 X.2.2.2.2.2.2.2.2.1 X.2.2.2.2.2.2.2.2.2.1 H locs kc ks X.2.2.2.2.2.2.2.2.2.2.1 (F0 X.2.2.2.2.2.1 pc ls st)
/-- what else constructors need of the machine -/
def xK (U : State) : Prop := va_AO RX1 U ∧ va_Nw (.methodLinkNest RX3 31 yX2_init RX3) U ∧ va_Nw (.methodLinkNest RX3 49 yX1_init RX3) U
theorem xK.call {s U : State} (h : xK s) (hW : s.WarmedH U.vm) : xK U := ⟨va_AO.moved hW.alike h.1, va_Nw.warmM hW h.2.1, va_Nw.warmM hW h.2.2⟩
theorem xK.calling {U : State} {g : JFrame} {mk : MethodId} {a : Array Value} (h : xK U) : xK (U.calling g mk a) := ⟨va_AO.moved (u := U) (U := U.calling g mk a) (Vm.Alike.refl U.vm) h.1, va_Nw.same rfl rfl h.2.1, va_Nw.same rfl rfl h.2.2⟩
abbrev AD : Type := Nat → Nat → Nat
def CN (l : Launch) (y : MethodName) (wy : List Cond) (rm : Room) (E : EV) (av : List Value) (w0 : va_W) (mc ms : Nat) (F : AD → Prop) (w1 : AD → va_W) : Prop := ∀ sz : Nat, Met l y wy rm (va_Pc av (fun U => U.heap.size = sz ∧ va_P E.1 vwCl w0 U.heap ∧ (kK E (va_A w0 sz) U ∧ xK U) ∧ va_D (fun _ => True) w0)) (va_Qv (fun u : AD => F u) (fun u t => va_P E.1 vwCl (w1 u) t.heap ∧ va_D (va_A w0 sz) (w1 u)) (va_A w0 sz)) mc ms (va_A w0 sz)
def QN (E : EV) (X : CX) (mc ms : Nat) (F : AD → Prop) (w1 : AD → va_W) : Prop := X.2.2.2.2.2.2.2.2.2.2.1 = MQ X.2.2.2.2.2.2.2.1 (va_Qv (fun u : AD => F u) (fun u t => va_P E.1 vwCl (w1 u) t.heap ∧ va_D X.2.2.2.2.2.2.2.2.2.2.2 (w1 u)) X.2.2.2.2.2.2.2.2.2.2.2) X.2.2.2.2.2.2.1 X.2.2.2.2.1 mc ms X.2.2.2.2.2.2.2.2.2.2.2
theorem CN.of {l : Launch} {y : MethodName} {wy wy' : List Cond} {rm : Room} {E : EV} {av : List Value} {w0 : va_W} {mc ms : Nat} {F : AD → Prop} {w1 : AD → va_W} {own : String} {cc : ByteArray} {nL : Nat} (hy : plainName y.cls = true) (hc : y.cls = own) (hi : y.name = "<init>") (hw : wy = Cond.code y cc nL none :: wy') (hn : (lg_sl av).length ≤ nL) (body : ∀ X : CX, Cx E X own cc nL none wy rm → xK X.2.2.2.2.1 → X.2.2.2.2.2.2.2.2.1.name = "<init>" → QN E X mc ms F w1 → GN 0 0 E X nL 0 (lv_args 0 av) [] w0) : CN l y wy rm E av w0 mc ms F w1 := by
  intro sz
  refine Met.ofW (cc := cc) (maxL := nL) (ret := none) hy hw ?_
  intro p e s m args below meth c s₁ B hml hv
  obtain ⟨rfl, hsz, hP, ⟨hK, hxk⟩, hD0⟩ := hv
  have hx := B.exec
  have hb := B.bytes
  have hr := B.returns
  have hts := atoms_spec (ws := wy) B.pre
  have hown : s.vm.findClass own = some m.cls := by rw [← hc]; exact findClass_of_methodNamed B.named
  have hlocks := B.notSynchronized
  have hin : meth.name = "<init>" := ((name_of_methodNamed B.named B.method).1).trans hi
  subst hsz
  have hD := hD0.self (sz := s.heap.size)
  have hl := lv_entry av (n := nL) hn
  rw [lg_entry_eq]
  exact body (p, l, e, rm, s, m, av.toArray, below, meth, c, MQ below (va_Qv (fun u : AD => F u) (fun u t => va_P E.1 vwCl (w1 u) t.heap ∧ va_D (va_A w0 s.heap.size) (w1 u)) (va_A w0 s.heap.size)) av.toArray s mc ms (va_A w0 s.heap.size), va_A w0 s.heap.size) ⟨hx, hb, hml, hown, hts, hK, fun q h => Or.inr h, hr, hlocks, rfl⟩ hxk hin rfl s.heap [] _ hP hD va_S.rf hl
section GNR
variable {kc ks : Nat} {E : EV} {X : CX} {own : String} {cc : ByteArray} {nL : Nat} {rt : Option FieldType} {Ts : List Cond} {rm : Room} {pc : Nat} {lv lv' : List (Nat × Value)} {st : List Value} {ws ws' : va_W}
theorem GN.lvp (is : List Nat) (h : lv_pick lv is = lv') (k : GN kc ks E X nL pc lv' st ws) : GN kc ks E X nL pc lv st ws := fun H locs ls hP hD hS hl => k H locs ls hP hD hS (lv_sub hl is h)
theorem GN.we (h : ws = ws') (k : GN kc ks E X nL pc lv st ws') : GN kc ks E X nL pc lv st ws := h ▸ k
theorem GN.ie {x y : Int32} (h : x = y) (k : GN kc ks E X nL pc lv (.int y :: st) ws) : GN kc ks E X nL pc lv (.int x :: st) ws := h ▸ k
theorem GN.le {x y : Int64} (h : x = y) (k : GN kc ks E X nL pc lv (.long y :: st) ws) : GN kc ks E X nL pc lv (.long x :: st) ws := h ▸ k
theorem GN.lve (h : lv = lv') (k : GN kc ks E X nL pc lv' st ws) : GN kc ks E X nL pc lv st ws := h ▸ k
theorem GN.iconst (hX : Cx E X own cc nL rt Ts rm) {n : Int} {v : Int32} (hv : Int32.ofInt n = v) (hd : decode cc pc = .ok (.iconst n, 1)) (k : GN kc ks E X nL (pc + 1) lv (.int v :: st) ws) : GN kc ks E X nL pc lv (st) ws := by
  obtain ⟨p, l, e, R, s, m, args, below, meth, c, Q, A⟩ := X
  obtain ⟨hx, hb, hml, hown, hts, hK, hA, hr, hlocks, hR⟩ := hX
  intro H locs ls hP hD hS hl
  exact lv_iconst hx hb hd hv (k H locs ls hP hD hS hl)
theorem GN.bipush (hX : Cx E X own cc nL rt Ts rm) {n : Int} {v : Int32} (hv : (Int8.ofInt n).toInt32 = v) (hd : decode cc pc = .ok (.bipush n, 2)) (k : GN kc ks E X nL (pc + 2) lv (.int v :: st) ws) : GN kc ks E X nL pc lv (st) ws := by
  obtain ⟨p, l, e, R, s, m, args, below, meth, c, Q, A⟩ := X
  obtain ⟨hx, hb, hml, hown, hts, hK, hA, hr, hlocks, hR⟩ := hX
  intro H locs ls hP hD hS hl
  exact lv_bipush hx hb hd hv (k H locs ls hP hD hS hl)
theorem GN.sipush (hX : Cx E X own cc nL rt Ts rm) {n : Int} {v : Int32} (hv : (Int16.ofInt n).toInt32 = v) (hd : decode cc pc = .ok (.sipush n, 3)) (k : GN kc ks E X nL (pc + 3) lv (.int v :: st) ws) : GN kc ks E X nL pc lv (st) ws := by
  obtain ⟨p, l, e, R, s, m, args, below, meth, c, Q, A⟩ := X
  obtain ⟨hx, hb, hml, hown, hts, hK, hA, hr, hlocks, hR⟩ := hX
  intro H locs ls hP hD hS hl
  exact lv_sipush hx hb hd hv (k H locs ls hP hD hS hl)
theorem GN.ldc2 (hX : Cx E X own cc nL rt Ts rm) {index : Nat} {v : Int64} (hc : Cond.constantLong own index v ∈ Ts) (hd : decode cc pc = .ok (.ldc2_w index, 3)) (k : GN kc ks E X nL (pc + 3) lv (.long v :: st) ws) : GN kc ks E X nL pc lv (st) ws := by
  obtain ⟨p, l, e, R, s, m, args, below, meth, c, Q, A⟩ := X
  obtain ⟨hx, hb, hml, hown, hts, hK, hA, hr, hlocks, hR⟩ := hX
  intro H locs ls hP hD hS hl
  exact lv_ldc2 hx hb hown (hts _ hc) hd (k H locs ls hP hD hS hl)
theorem GN.iload_n (hX : Cx E X own cc nL rt Ts rm) {kf : Fin 4} {x : Int32} (q : Nat) (hq : lv[q]? = some ((kf : Nat), .int x)) (hd : decode cc pc = .ok (.iload_n kf, 1)) (k : GN kc ks E X nL (pc + 1) lv (.int x :: st) ws) : GN kc ks E X nL pc lv (st) ws := by
  obtain ⟨p, l, e, R, s, m, args, below, meth, c, Q, A⟩ := X
  obtain ⟨hx, hb, hml, hown, hts, hK, hA, hr, hlocks, hR⟩ := hX
  intro H locs ls hP hD hS hl
  exact lv_iload_n hx hb hd rfl (lv_at hl q hq) (k H locs ls hP hD hS hl)
theorem GN.aload_n (hX : Cx E X own cc nL rt Ts rm) {kf : Fin 4} {x : Nat} (q : Nat) (hq : lv[q]? = some ((kf : Nat), .ref x)) (hd : decode cc pc = .ok (.aload_n kf, 1)) (k : GN kc ks E X nL (pc + 1) lv (.ref x :: st) ws) : GN kc ks E X nL pc lv (st) ws := by
  obtain ⟨p, l, e, R, s, m, args, below, meth, c, Q, A⟩ := X
  obtain ⟨hx, hb, hml, hown, hts, hK, hA, hr, hlocks, hR⟩ := hX
  intro H locs ls hP hD hS hl
  exact lv_aload_n hx hb hd rfl (lv_at hl q hq) (k H locs ls hP hD hS hl)
theorem GN.istore_n (hX : Cx E X own cc nL rt Ts rm) {kf : Fin 4} {i : Nat} {x : Int32} (hi : (kf : Nat) = i) (hn : i < nL) (hl2 : (i, Value.int x) :: lv.filter (fun q => !(q.1 == i) && !(q.1 + 1 == i && q.2.category == 2)) = lv') (hd : decode cc pc = .ok (.istore_n kf, 1)) (k : GN kc ks E X nL (pc + 1) lv' st ws) : GN kc ks E X nL pc lv (Value.int x :: st) ws := by
  obtain ⟨p, l, e, R, s, m, args, below, meth, c, Q, A⟩ := X
  obtain ⟨hx, hb, hml, hown, hts, hK, hA, hr, hlocks, hR⟩ := hX
  intro H locs ls hP hD hS hl
  exact lv_istore_n hx hb hd hi hl hn hl2 (fun ls2 hl3 => k H locs ls2 hP hD hS hl3)
theorem GN.astore_n (hX : Cx E X own cc nL rt Ts rm) {kf : Fin 4} {i : Nat} {x : Nat} (hi : (kf : Nat) = i) (hn : i < nL) (hl2 : (i, Value.ref x) :: lv.filter (fun q => !(q.1 == i) && !(q.1 + 1 == i && q.2.category == 2)) = lv') (hd : decode cc pc = .ok (.astore_n kf, 1)) (k : GN kc ks E X nL (pc + 1) lv' st ws) : GN kc ks E X nL pc lv (Value.ref x :: st) ws := by
  obtain ⟨p, l, e, R, s, m, args, below, meth, c, Q, A⟩ := X
  obtain ⟨hx, hb, hml, hown, hts, hK, hA, hr, hlocks, hR⟩ := hX
  intro H locs ls hP hD hS hl
  exact lv_astore_n hx hb hd hi hl hn hl2 (fun ls2 hl3 => k H locs ls2 hP hD hS hl3)
theorem GN.iinc (hX : Cx E X own cc nL rt Ts rm) {i : Nat} {n : Int} {x0 x : Int32} (q : Nat) (hq : lv[q]? = some (i, .int x0)) (hv : x0 + Int32.ofInt n = x) (hn : i < nL) (hl2 : (i, Value.int x) :: lv.filter (fun q => !(q.1 == i) && !(q.1 + 1 == i && q.2.category == 2)) = lv') (hd : decode cc pc = .ok (.iinc i n, 3)) (k : GN kc ks E X nL (pc + 3) lv' st ws) : GN kc ks E X nL pc lv st ws := by
  obtain ⟨p, l, e, R, s, m, args, below, meth, c, Q, A⟩ := X
  obtain ⟨hx, hb, hml, hown, hts, hK, hA, hr, hlocks, hR⟩ := hX
  intro H locs ls hP hD hS hl
  exact lv_iinc hx hb hd hl hq hv hn hl2 (fun ls2 hl3 => k H locs ls2 hP hD hS hl3)
theorem GN.iadd (hX : Cx E X own cc nL rt Ts rm) {x y : Int32} (hd : decode cc pc = .ok (.iadd, 1)) (k : GN kc ks E X nL (pc + 1) lv (.int (x + y) :: st) ws) : GN kc ks E X nL pc lv (.int y :: .int x :: st) ws := by
  obtain ⟨p, l, e, R, s, m, args, below, meth, c, Q, A⟩ := X
  obtain ⟨hx, hb, hml, hown, hts, hK, hA, hr, hlocks, hR⟩ := hX
  intro H locs ls hP hD hS hl
  exact lv_iadd hx hb hd (k H locs ls hP hD hS hl)
theorem GN.isub (hX : Cx E X own cc nL rt Ts rm) {x y : Int32} (hd : decode cc pc = .ok (.isub, 1)) (k : GN kc ks E X nL (pc + 1) lv (.int (x - y) :: st) ws) : GN kc ks E X nL pc lv (.int y :: .int x :: st) ws := by
  obtain ⟨p, l, e, R, s, m, args, below, meth, c, Q, A⟩ := X
  obtain ⟨hx, hb, hml, hown, hts, hK, hA, hr, hlocks, hR⟩ := hX
  intro H locs ls hP hD hS hl
  exact lv_isub hx hb hd (k H locs ls hP hD hS hl)
theorem GN.iand (hX : Cx E X own cc nL rt Ts rm) {x y : Int32} (hd : decode cc pc = .ok (.iand, 1)) (k : GN kc ks E X nL (pc + 1) lv (.int (x &&& y) :: st) ws) : GN kc ks E X nL pc lv (.int y :: .int x :: st) ws := by
  obtain ⟨p, l, e, R, s, m, args, below, meth, c, Q, A⟩ := X
  obtain ⟨hx, hb, hml, hown, hts, hK, hA, hr, hlocks, hR⟩ := hX
  intro H locs ls hP hD hS hl
  exact lv_iand hx hb hd (k H locs ls hP hD hS hl)
theorem GN.land (hX : Cx E X own cc nL rt Ts rm) {x y : Int64} (hd : decode cc pc = .ok (.land, 1)) (k : GN kc ks E X nL (pc + 1) lv (.long (x &&& y) :: st) ws) : GN kc ks E X nL pc lv (.long y :: .long x :: st) ws := by
  obtain ⟨p, l, e, R, s, m, args, below, meth, c, Q, A⟩ := X
  obtain ⟨hx, hb, hml, hown, hts, hK, hA, hr, hlocks, hR⟩ := hX
  intro H locs ls hP hD hS hl
  exact lv_land hx hb hd (k H locs ls hP hD hS hl)
theorem GN.lor (hX : Cx E X own cc nL rt Ts rm) {x y : Int64} (hd : decode cc pc = .ok (.lor, 1)) (k : GN kc ks E X nL (pc + 1) lv (.long (x ||| y) :: st) ws) : GN kc ks E X nL pc lv (.long y :: .long x :: st) ws := by
  obtain ⟨p, l, e, R, s, m, args, below, meth, c, Q, A⟩ := X
  obtain ⟨hx, hb, hml, hown, hts, hK, hA, hr, hlocks, hR⟩ := hX
  intro H locs ls hP hD hS hl
  exact lv_lor hx hb hd (k H locs ls hP hD hS hl)
theorem GN.lshl (hX : Cx E X own cc nL rt Ts rm) {x : Int64} {y : Int32} (hd : decode cc pc = .ok (.lshl, 1)) (k : GN kc ks E X nL (pc + 1) lv (.long (x <<< (y.toInt64 &&& 63)) :: st) ws) : GN kc ks E X nL pc lv (.int y :: .long x :: st) ws := by
  obtain ⟨p, l, e, R, s, m, args, below, meth, c, Q, A⟩ := X
  obtain ⟨hx, hb, hml, hown, hts, hK, hA, hr, hlocks, hR⟩ := hX
  intro H locs ls hP hD hS hl
  exact lv_lshl hx hb hd rfl (k H locs ls hP hD hS hl)
theorem GN.lcmp (hX : Cx E X own cc nL rt Ts rm) {x y : Int64} (hd : decode cc pc = .ok (.lcmp, 1)) (k : GN kc ks E X nL (pc + 1) lv (.int (lg_cmp x y) :: st) ws) : GN kc ks E X nL pc lv (.long y :: .long x :: st) ws := by
  obtain ⟨p, l, e, R, s, m, args, below, meth, c, Q, A⟩ := X
  obtain ⟨hx, hb, hml, hown, hts, hK, hA, hr, hlocks, hR⟩ := hX
  intro H locs ls hP hD hS hl
  exact W.lcmp hx hb hd (k H locs ls hP hD hS hl)
theorem GN.i2l (hX : Cx E X own cc nL rt Ts rm) {x : Int32} (hd : decode cc pc = .ok (.i2l, 1)) (k : GN kc ks E X nL (pc + 1) lv (.long x.toInt64 :: st) ws) : GN kc ks E X nL pc lv (.int x :: st) ws := by
  obtain ⟨p, l, e, R, s, m, args, below, meth, c, Q, A⟩ := X
  obtain ⟨hx, hb, hml, hown, hts, hK, hA, hr, hlocks, hR⟩ := hX
  intro H locs ls hP hD hS hl
  exact lv_i2l hx hb hd rfl (k H locs ls hP hD hS hl)
theorem GN.dup (hX : Cx E X own cc nL rt Ts rm) {va : Value} (hv : va.category = 1) (hd : decode cc pc = .ok (.dup, 1)) (k : GN kc ks E X nL (pc + 1) lv (va :: va :: st) ws) : GN kc ks E X nL pc lv (va :: st) ws := by
  obtain ⟨p, l, e, R, s, m, args, below, meth, c, Q, A⟩ := X
  obtain ⟨hx, hb, hml, hown, hts, hK, hA, hr, hlocks, hR⟩ := hX
  intro H locs ls hP hD hS hl
  exact lv_dup hx hb hd hv (k H locs ls hP hD hS hl)
theorem GN.if_eq (hX : Cx E X own cc nL rt Ts rm) {x : Int32} {off : Int} {tgt : Nat} (ht : (pc : Int) + off = (tgt : Int)) (hd : decode cc pc = .ok (.ifCond .eq off, 3)) (kt : x = 0 → GN kc ks E X nL tgt lv st ws) (kf : ¬ x = 0 → GN kc ks E X nL (pc + 3) lv st ws) : GN kc ks E X nL pc lv (.int x :: st) ws := by
  obtain ⟨p, l, e, R, s, m, args, below, meth, c, Q, A⟩ := X
  obtain ⟨hx, hb, hml, hown, hts, hK, hA, hr, hlocks, hR⟩ := hX
  intro H locs ls hP hD hS hl
  exact lv_if_eq hx hb hd ht (fun h => kt h H locs ls hP hD hS hl) (fun h => kf h H locs ls hP hD hS hl)
theorem GN.icmp_eq (hX : Cx E X own cc nL rt Ts rm) {x y : Int32} {off : Int} {tgt : Nat} (ht : (pc : Int) + off = (tgt : Int)) (hd : decode cc pc = .ok (.if_icmp .eq off, 3)) (kt : x = y → GN kc ks E X nL tgt lv st ws) (kf : ¬ x = y → GN kc ks E X nL (pc + 3) lv st ws) : GN kc ks E X nL pc lv (.int y :: .int x :: st) ws := by
  obtain ⟨p, l, e, R, s, m, args, below, meth, c, Q, A⟩ := X
  obtain ⟨hx, hb, hml, hown, hts, hK, hA, hr, hlocks, hR⟩ := hX
  intro H locs ls hP hD hS hl
  exact lv_icmp_eq hx hb hd ht (fun h => kt h H locs ls hP hD hS hl) (fun h => kf h H locs ls hP hD hS hl)
theorem GN.icmp_ge (hX : Cx E X own cc nL rt Ts rm) {x y : Int32} {off : Int} {tgt : Nat} (ht : (pc : Int) + off = (tgt : Int)) (hd : decode cc pc = .ok (.if_icmp .ge off, 3)) (kt : y ≤ x → GN kc ks E X nL tgt lv st ws) (kf : ¬ y ≤ x → GN kc ks E X nL (pc + 3) lv st ws) : GN kc ks E X nL pc lv (.int y :: .int x :: st) ws := by
  obtain ⟨p, l, e, R, s, m, args, below, meth, c, Q, A⟩ := X
  obtain ⟨hx, hb, hml, hown, hts, hK, hA, hr, hlocks, hR⟩ := hX
  intro H locs ls hP hD hS hl
  exact lv_icmp_ge hx hb hd ht (fun h => kt h H locs ls hP hD hS hl) (fun h => kf h H locs ls hP hD hS hl)
theorem GN.icmp_gt (hX : Cx E X own cc nL rt Ts rm) {x y : Int32} {off : Int} {tgt : Nat} (ht : (pc : Int) + off = (tgt : Int)) (hd : decode cc pc = .ok (.if_icmp .gt off, 3)) (kt : y < x → GN kc ks E X nL tgt lv st ws) (kf : ¬ y < x → GN kc ks E X nL (pc + 3) lv st ws) : GN kc ks E X nL pc lv (.int y :: .int x :: st) ws := by
  obtain ⟨p, l, e, R, s, m, args, below, meth, c, Q, A⟩ := X
  obtain ⟨hx, hb, hml, hown, hts, hK, hA, hr, hlocks, hR⟩ := hX
  intro H locs ls hP hD hS hl
  exact lv_icmp_gt hx hb hd ht (fun h => kt h H locs ls hP hD hS hl) (fun h => kf h H locs ls hP hD hS hl)
theorem GN.goto (hX : Cx E X own cc nL rt Ts rm) {off : Int} {tgt : Nat} (ht : (pc : Int) + off = (tgt : Int)) (hd : decode cc pc = .ok (.goto off, 3)) (k : GN kc ks E X nL tgt lv st ws) : GN kc ks E X nL pc lv (st) ws := by
  obtain ⟨p, l, e, R, s, m, args, below, meth, c, Q, A⟩ := X
  obtain ⟨hx, hb, hml, hown, hts, hK, hA, hr, hlocks, hR⟩ := hX
  intro H locs ls hP hD hS hl
  exact lv_goto hx hb hd ht (k H locs ls hP hD hS hl)
theorem GN.tin (hX : Cx E X own cc nL rt Ts rm) {dflt lo hi : Int} {offs : Array Int} {len : Nat} {x : Int32} {off : Int} {tgt : Nat} (hd : decode cc pc = .ok (.tableswitch dflt lo hi offs, len)) (h1 : ¬ x.toInt < lo) (h2 : ¬ hi < x.toInt) (ho : offs[(x.toInt - lo).toNat]? = some off) (ht : (pc : Int) + off = (tgt : Int)) (k : GN kc ks E X nL tgt lv st ws) : GN kc ks E X nL pc lv (.int x :: st) ws := by
  obtain ⟨p, l, e, R, s, m, args, below, meth, c, Q, A⟩ := X
  obtain ⟨hx, hb, hml, hown, hts, hK, hA, hr, hlocks, hR⟩ := hX
  intro H locs ls hP hD hS hl
  exact lv_tableIn hx hb hd h1 h2 ho ht (k H locs ls hP hD hS hl)
theorem GN.tout (hX : Cx E X own cc nL rt Ts rm) {dflt lo hi : Int} {offs : Array Int} {len : Nat} {x : Int32} {tgt : Nat} (hd : decode cc pc = .ok (.tableswitch dflt lo hi offs, len)) (h : x.toInt < lo ∨ hi < x.toInt) (ht : (pc : Int) + dflt = (tgt : Int)) (k : GN kc ks E X nL tgt lv st ws) : GN kc ks E X nL pc lv (.int x :: st) ws := by
  obtain ⟨p, l, e, R, s, m, args, below, meth, c, Q, A⟩ := X
  obtain ⟨hx, hb, hml, hown, hts, hK, hA, hr, hlocks, hR⟩ := hX
  intro H locs ls hP hD hS hl
  exact lv_tableOut hx hb hd h ht (k H locs ls hP hD hS hl)
theorem GN.get (hX : Cx E X own cc nL rt Ts rm) {C : String} {T : u_T} {N ci index a : Nat} {fs : List Value} {v : Value} (hin : ∀ w ∈ u_ws C T N, w ∈ Ts) (q0 : Nat) (he : ws[q0]? = some (a, .inr (ci, fs))) (hc : vwCl[ci]? = some (C, T, N)) (k0 : Nat) (hk : k0 < N) (hlink : Cond.fieldLink own index (T k0).1 (T k0).2.1 (T k0).2.2.1 ∈ Ts) (hv : fs[k0]? = some v) (hd : decode cc pc = .ok (.getfield index, 3)) (k : GN kc ks E X nL (pc + 3) lv (v :: st) ws) : GN kc ks E X nL pc lv (.ref a :: st) ws := by
  obtain ⟨p, l, e, R, s, m, args, below, meth, c, Q, A⟩ := X
  obtain ⟨hx, hb, hml, hown, hts, hK, hA, hr, hlocks, hR⟩ := hX
  intro H locs ls hP hD hS hl
  exact va_get hx hb hts hin hown hK.1 hP q0 he hc k0 hk (hts _ hlink) (fun _ h => h) hv hd (k H locs ls hP hD hS hl)
theorem GN.put (hX : Cx E X own cc nL rt Ts rm) {C : String} {T : u_T} {N ci index a : Nat} {fs fs' : List Value} {v : Value} {ty : FieldType} (hin : ∀ w ∈ u_ws C T N, w ∈ Ts) (ty0 : Nat → FieldType) (hty : ∀ k, k < N → parseFieldDescriptor (T k).2.2.1 = some (ty0 k)) (hnm : ∀ a, a < N → ∀ b, b < N → a ≠ b → (T a).2.1 ≠ (T b).2.1) (q0 : Nat) (he : ws[q0]? = some (a, .inr (ci, fs))) (hc : vwCl[ci]? = some (C, T, N)) (k0 : Nat) (hk : k0 < N) (hlink : Cond.fieldLink own index (T k0).1 (T k0).2.1 (T k0).2.2.1 ∈ Ts) (hfin : (T k0).2.2.2 = false) (hpd : parseFieldDescriptor (T k0).2.2.1 = some ty) (hn : narrow ty v = v) (hfit : fits ty v = true) (hl0 : k0 < fs.length) (hf : fs.set k0 v = fs') (hw : ws.set q0 (a, .inr (ci, fs')) = ws') (hd : decode cc pc = .ok (.putfield index, 3)) (k : GN kc ks E X nL (pc + 3) lv st ws') : GN kc ks E X nL pc lv (v :: .ref a :: st) ws := by
  obtain ⟨p, l, e, R, s, m, args, below, meth, c, Q, A⟩ := X
  obtain ⟨hx, hb, hml, hown, hts, hK, hA, hr, hlocks, hR⟩ := hX
  intro H locs ls hP hD hS hl
  subst hf
  subst hw
  exact va_put hx hb hts hin ty0 hty hnm hown hK.1 hP hD hS q0 he hc k0 hk (hts _ hlink) (fun _ h => h) hfin hpd hn hfit hl0 hd (fun H1 locs1 hP1 hD1 hS1 => k H1 locs1 ls hP1 hD1 hS1 hl)
theorem GN.iast (hX : Cx E X own cc nL rt Ts rm) {a n j : Nat} {f f' : Nat → Int32} {x : Int32} (q0 : Nat) (ha : ws[q0]? = some (a, .inl (E.2.1 0, n, .inl f))) (hj : j < n) (hn : n < 2 ^ 31) (hf : upd f j x = f') (hw : ws.set q0 (a, .inl (E.2.1 0, n, .inl f')) = ws') (hd : decode cc pc = .ok (.iastore, 1)) (k : GN kc ks E X nL (pc + 1) lv st ws') : GN kc ks E X nL pc lv (.int x :: .int (nI j) :: .ref a :: st) ws := by
  obtain ⟨p, l, e, R, s, m, args, below, meth, c, Q, A⟩ := X
  obtain ⟨hx, hb, hml, hown, hts, hK, hA, hr, hlocks, hR⟩ := hX
  intro H locs ls hP hD hS hl
  subst hf
  subst hw
  have e : (nI j).toNatClampNeg = j := nI_clamp (by omega)
  refine va_iast hx hb hK.1 hP hD hS q0 0 ha rfl (vp_in_nI hj hn) hd (fun H1 locs1 hP1 hD1 hS1 => ?_)
  rw [e] at hP1 hD1
  exact k H1 locs1 ls hP1 hD1 hS1 hl
theorem GN.vi (hX : Cx E X own cc nL rt Ts rm) {index maxL n : Nat} {C : String} {y : MethodName} {wy : List Cond} {ry : Room} {As : List Value} {wc wr w1 wf : va_W} {r : Int32} {st0 : List Value} {b ci q0 : Nat} {T : u_T} {N : Nat} {fs : List Value} (hcl : vwCl[ci]? = some (C, T, N)) (he : wc[q0]? = some (b, .inr (ci, fs))) (hM : CI X.2.1 y wy ry E (.ref b :: As) wc w1 r) (hG : GoodIn Ts (wsV own index C y wy)) (hcp : CP y C wy maxL n ry) (hkc : kc ≤ rm.cells ∧ ks ≤ rm.slots) (hRR : ry.frames + 1 ≤ rm.frames ∧ 8 + (maxL + 11) + ry.locals ≤ rm.locals) (isC isR pm : List Nat) (hcut : Cut ws wc wr w1 wf isC isR pm) (hst : st0 = As.reverse ++ .ref b :: st) (hn : As.length = n) (hrs0 : (st.map fun v => v.category).sum ≤ 8) (hd : decode cc pc = .ok (.invokevirtual index, 3)) (k : GN kc ks E X nL (pc + 3) lv (.int r :: st) wf) : GN kc ks E X nL pc lv st0 ws := by
  obtain ⟨p, l, e, R, s, m, args, below, meth, c, Q, A⟩ := X
  have hX0 := hX
  obtain ⟨hx, hb, hml, hown, hts, hK, hA, hr, hlocks, hR⟩ := hX
  dsimp only at hx hb hml hown hts hK hA hR
  obtain ⟨⟨bytes, ret, wy', hwy⟩, hrc, hrs, hdd⟩ := hcp
  obtain ⟨hC, hRe, ⟨hn1, hn2, hn3, hdis⟩, hpf⟩ := hcut
  intro H locs ls hP hD hS hl
  dsimp only at hD hS ⊢
  have hR1 : ry.frames + 1 ≤ R.frames := by rw [hR]; exact hRR.1
  have hR2 : 8 + (maxL + 11) + ry.locals ≤ R.locals := by rw [hR]; exact hRR.2
  have hPc : va_P E.1 vwCl wc H := hP.sub isC (g_fm hC)
  have hDc := hD.sub isC hn1 hC
  have hFc := va_free hD hS hA isC hC
  refine va_calli (A1 := va_A wc H.size) (mc := 0) (ms := 0) (rest := st) (va_runV (As := As) (rest := st) ⟨hx, hb, hml, hown, hts⟩ (hM H.size) (cwV n hts hG hwy hrc hrs hdd ⟨hR1, hR2⟩) ⟨fun a U g mk q => by obtain ⟨q0, q1, qP, qK, qD⟩ := q; exact ⟨q0, q1, qP, qK.calling, qD⟩, va_recv hK.1 hPc (ci := ci) (q0 := q0) hcl he, fun U hU hW => ⟨rfl, by rw [hU], by rw [hU]; exact hPc, hK.call hS hU hW hFc, hDc.weaken (fun _ _ _ _ => trivial)⟩⟩ rfl hn hl.1 hst (lv_room hrs0) hd ⟨by rw [hR]; exact hkc.1, by rw [hR]; exact hkc.2⟩) hS (fun q _ h => hFc q h) hFc (fun r2 u t H1 locs1 ht hvm hw hB hz1 hk1 hS1 => ?_)
  obtain ⟨hP1, hD1⟩ := hB
  subst hw
  rw [ht] at hP1
  obtain ⟨hP2, hD2⟩ := va_join hP hD isC isR hC hRe hn2 hdis hk1 hFc hP1 hD1
  exact k H1 locs1 ls (hP2.sub pm (g_fm hpf)) (hD2.sub pm hn3 hpf) hS1 hl
theorem GN.vl (hX : Cx E X own cc nL rt Ts rm) {index maxL n : Nat} {C : String} {y : MethodName} {wy : List Cond} {ry : Room} {As : List Value} {wc wr w1 wf : va_W} {r : Int64} {st0 : List Value} {b ci q0 : Nat} {T : u_T} {N : Nat} {fs : List Value} (hcl : vwCl[ci]? = some (C, T, N)) (he : wc[q0]? = some (b, .inr (ci, fs))) (hM : CL X.2.1 y wy ry E (.ref b :: As) wc w1 r) (hG : GoodIn Ts (wsV own index C y wy)) (hcp : CP y C wy maxL n ry) (hkc : kc ≤ rm.cells ∧ ks ≤ rm.slots) (hRR : ry.frames + 1 ≤ rm.frames ∧ 8 + (maxL + 11) + ry.locals ≤ rm.locals) (isC isR pm : List Nat) (hcut : Cut ws wc wr w1 wf isC isR pm) (hst : st0 = As.reverse ++ .ref b :: st) (hn : As.length = n) (hrs0 : (st.map fun v => v.category).sum ≤ 8) (hd : decode cc pc = .ok (.invokevirtual index, 3)) (k : GN kc ks E X nL (pc + 3) lv (.long r :: st) wf) : GN kc ks E X nL pc lv st0 ws := by
  obtain ⟨p, l, e, R, s, m, args, below, meth, c, Q, A⟩ := X
  have hX0 := hX
  obtain ⟨hx, hb, hml, hown, hts, hK, hA, hr, hlocks, hR⟩ := hX
  dsimp only at hx hb hml hown hts hK hA hR
  obtain ⟨⟨bytes, ret, wy', hwy⟩, hrc, hrs, hdd⟩ := hcp
  obtain ⟨hC, hRe, ⟨hn1, hn2, hn3, hdis⟩, hpf⟩ := hcut
  intro H locs ls hP hD hS hl
  dsimp only at hD hS ⊢
  have hR1 : ry.frames + 1 ≤ R.frames := by rw [hR]; exact hRR.1
  have hR2 : 8 + (maxL + 11) + ry.locals ≤ R.locals := by rw [hR]; exact hRR.2
  have hPc : va_P E.1 vwCl wc H := hP.sub isC (g_fm hC)
  have hDc := hD.sub isC hn1 hC
  have hFc := va_free hD hS hA isC hC
  refine va_calll (A1 := va_A wc H.size) (mc := 0) (ms := 0) (rest := st) (va_runV (As := As) (rest := st) ⟨hx, hb, hml, hown, hts⟩ (hM H.size) (cwV n hts hG hwy hrc hrs hdd ⟨hR1, hR2⟩) ⟨fun a U g mk q => by obtain ⟨q0, q1, qP, qK, qD⟩ := q; exact ⟨q0, q1, qP, qK.calling, qD⟩, va_recv hK.1 hPc (ci := ci) (q0 := q0) hcl he, fun U hU hW => ⟨rfl, by rw [hU], by rw [hU]; exact hPc, hK.call hS hU hW hFc, hDc.weaken (fun _ _ _ _ => trivial)⟩⟩ rfl hn hl.1 hst (lv_room hrs0) hd ⟨by rw [hR]; exact hkc.1, by rw [hR]; exact hkc.2⟩) hS (fun q _ h => hFc q h) hFc (fun r2 u t H1 locs1 ht hvm hw hB hz1 hk1 hS1 => ?_)
  obtain ⟨hP1, hD1⟩ := hB
  subst hw
  rw [ht] at hP1
  obtain ⟨hP2, hD2⟩ := va_join hP hD isC isR hC hRe hn2 hdis hk1 hFc hP1 hD1
  exact k H1 locs1 ls (hP2.sub pm (g_fm hpf)) (hD2.sub pm hn3 hpf) hS1 hl
theorem GN.vv (hX : Cx E X own cc nL rt Ts rm) {index maxL n : Nat} {C : String} {y : MethodName} {wy : List Cond} {ry : Room} {As : List Value} {wc wr w1 wf : va_W} {st0 : List Value} {b ci q0 : Nat} {T : u_T} {N : Nat} {fs : List Value} (hcl : vwCl[ci]? = some (C, T, N)) (he : wc[q0]? = some (b, .inr (ci, fs))) (hM : CV X.2.1 y wy ry E (.ref b :: As) wc w1) (hG : GoodIn Ts (wsV own index C y wy)) (hcp : CP y C wy maxL n ry) (hkc : kc ≤ rm.cells ∧ ks ≤ rm.slots) (hRR : ry.frames + 1 ≤ rm.frames ∧ 8 + (maxL + 11) + ry.locals ≤ rm.locals) (isC isR pm : List Nat) (hcut : Cut ws wc wr w1 wf isC isR pm) (hst : st0 = As.reverse ++ .ref b :: st) (hn : As.length = n) (hrs0 : (st.map fun v => v.category).sum ≤ 8) (hd : decode cc pc = .ok (.invokevirtual index, 3)) (k : GN kc ks E X nL (pc + 3) lv (st) wf) : GN kc ks E X nL pc lv st0 ws := by
  obtain ⟨p, l, e, R, s, m, args, below, meth, c, Q, A⟩ := X
  have hX0 := hX
  obtain ⟨hx, hb, hml, hown, hts, hK, hA, hr, hlocks, hR⟩ := hX
  dsimp only at hx hb hml hown hts hK hA hR
  obtain ⟨⟨bytes, ret, wy', hwy⟩, hrc, hrs, hdd⟩ := hcp
  obtain ⟨hC, hRe, ⟨hn1, hn2, hn3, hdis⟩, hpf⟩ := hcut
  intro H locs ls hP hD hS hl
  dsimp only at hD hS ⊢
  have hR1 : ry.frames + 1 ≤ R.frames := by rw [hR]; exact hRR.1
  have hR2 : 8 + (maxL + 11) + ry.locals ≤ R.locals := by rw [hR]; exact hRR.2
  have hPc : va_P E.1 vwCl wc H := hP.sub isC (g_fm hC)
  have hDc := hD.sub isC hn1 hC
  have hFc := va_free hD hS hA isC hC
  refine va_callv (A1 := va_A wc H.size) (mc := 0) (ms := 0) (rest := st) (va_runV (As := As) (rest := st) ⟨hx, hb, hml, hown, hts⟩ (hM H.size) (cwV n hts hG hwy hrc hrs hdd ⟨hR1, hR2⟩) ⟨fun a U g mk q => by obtain ⟨q0, q1, qP, qK, qD⟩ := q; exact ⟨q0, q1, qP, qK.calling, qD⟩, va_recv hK.1 hPc (ci := ci) (q0 := q0) hcl he, fun U hU hW => ⟨rfl, by rw [hU], by rw [hU]; exact hPc, hK.call hS hU hW hFc, hDc.weaken (fun _ _ _ _ => trivial)⟩⟩ rfl hn hl.1 hst (lv_room hrs0) hd ⟨by rw [hR]; exact hkc.1, by rw [hR]; exact hkc.2⟩) hS (fun q _ h => hFc q h) hFc (fun u t H1 locs1 ht hvm hw hB hz1 hk1 hS1 => ?_)
  obtain ⟨hP1, hD1⟩ := hB
  rw [ht] at hP1
  obtain ⟨hP2, hD2⟩ := va_join hP hD isC isR hC hRe hn2 hdis hk1 hFc hP1 hD1
  exact k H1 locs1 ls (hP2.sub pm (g_fm hpf)) (hD2.sub pm hn3 hpf) hS1 hl
theorem GN.sv (hX : Cx E X own cc nL rt Ts rm) {index maxL n : Nat} {C : String} {y : MethodName} {wy : List Cond} {ry : Room} {As : List Value} {wc wr w1 wf : va_W} {st0 : List Value} (hM : CV X.2.1 y wy ry E (As) wc w1) (hG : GoodIn Ts (va_wsS own index y wy)) (hcp : CP y C wy maxL n ry) (hkc : kc ≤ rm.cells ∧ ks ≤ rm.slots) (hRR : ry.frames + 1 ≤ rm.frames ∧ 8 + (maxL + 11) + ry.locals ≤ rm.locals) (isC isR pm : List Nat) (hcut : Cut ws wc wr w1 wf isC isR pm) (hst : st0 = As.reverse ++ st) (hn : As.length = n) (hrs0 : (st.map fun v => v.category).sum ≤ 8) (hd : decode cc pc = .ok (.invokestatic index, 3)) (k : GN kc ks E X nL (pc + 3) lv (st) wf) : GN kc ks E X nL pc lv st0 ws := by
  obtain ⟨p, l, e, R, s, m, args, below, meth, c, Q, A⟩ := X
  have hX0 := hX
  obtain ⟨hx, hb, hml, hown, hts, hK, hA, hr, hlocks, hR⟩ := hX
  dsimp only at hx hb hml hown hts hK hA hR
  obtain ⟨⟨bytes, ret, wy', hwy⟩, hrc, hrs, hdd⟩ := hcp
  obtain ⟨hC, hRe, ⟨hn1, hn2, hn3, hdis⟩, hpf⟩ := hcut
  intro H locs ls hP hD hS hl
  dsimp only at hD hS ⊢
  have hR1 : ry.frames + 1 ≤ R.frames := by rw [hR]; exact hRR.1
  have hR2 : 8 + (maxL + 11) + ry.locals ≤ R.locals := by rw [hR]; exact hRR.2
  have hPc : va_P E.1 vwCl wc H := hP.sub isC (g_fm hC)
  have hDc := hD.sub isC hn1 hC
  have hFc := va_free hD hS hA isC hC
  refine va_callv (A1 := va_A wc H.size) (mc := 0) (ms := 0) (rest := st) (va_runS (As := As) (rest := st) ⟨hx, hb, hml, hown, hts⟩ (hM H.size) (va_cwS n hts hG hwy hrc hrs hdd.2 ⟨hR1, hR2⟩) ⟨fun a U g mk q => by obtain ⟨q0, q1, qP, qK, qD⟩ := q; exact ⟨q0, q1, qP, qK.calling, qD⟩, fun U hU hW => ⟨rfl, by rw [hU], by rw [hU]; exact hPc, hK.call hS hU hW hFc, hDc.weaken (fun _ _ _ _ => trivial)⟩⟩ rfl hn hl.1 hst (lv_room hrs0) hd ⟨by rw [hR]; exact hkc.1, by rw [hR]; exact hkc.2⟩) hS (fun q _ h => hFc q h) hFc (fun u t H1 locs1 ht hvm hw hB hz1 hk1 hS1 => ?_)
  obtain ⟨hP1, hD1⟩ := hB
  rw [ht] at hP1
  obtain ⟨hP2, hD2⟩ := va_join hP hD isC isR hC hRe hn2 hdis hk1 hFc hP1 hD1
  exact k H1 locs1 ls (hP2.sub pm (g_fm hpf)) (hD2.sub pm hn3 hpf) hS1 hl
theorem GN.n_ge (hX : Cx E X own cc nL rt Ts rm) {a b : Nat} {off : Int} {tgt : Nat} (ha : a < 2 ^ 31) (hb : b < 2 ^ 31) (ht : (pc : Int) + off = (tgt : Int)) (hd : decode cc pc = .ok (.if_icmp .ge off, 3)) (kt : b ≤ a → GN kc ks E X nL tgt lv st ws) (kf : a < b → GN kc ks E X nL (pc + 3) lv st ws) : GN kc ks E X nL pc lv (.int (nI b) :: .int (nI a) :: st) ws   := GN.icmp_ge hX ht hd (fun h => kt ((nI_leI hb ha).mp h)) (fun h => kf (Nat.not_le.mp (fun e => h ((nI_leI hb ha).mpr e))))
theorem GN.n_gt (hX : Cx E X own cc nL rt Ts rm) {a b : Nat} {off : Int} {tgt : Nat} (ha : a < 2 ^ 31) (hb : b < 2 ^ 31) (ht : (pc : Int) + off = (tgt : Int)) (hd : decode cc pc = .ok (.if_icmp .gt off, 3)) (kt : b < a → GN kc ks E X nL tgt lv st ws) (kf : a ≤ b → GN kc ks E X nL (pc + 3) lv st ws) : GN kc ks E X nL pc lv (.int (nI b) :: .int (nI a) :: st) ws   := GN.icmp_gt hX ht hd (fun h => kt ((nI_ltI hb ha).mp h)) (fun h => kf (Nat.not_lt.mp (fun e => h ((nI_ltI hb ha).mpr e))))
theorem GN.wide {kc' ks' : Nat} (h1 : kc ≤ kc') (h2 : ks ≤ ks') (k : GN kc' ks' E X nL pc lv st ws) : GN kc ks E X nL pc lv st ws := fun H locs ls hP hD hS hl => W.widen h1 h2 (k H locs ls hP hD hS hl)
theorem GN.perm (is : List Nat) (hn : va_nd is = true) (h : is.map (fun i => ws[i]?) = ws'.map some) (k : GN kc ks E X nL pc lv st ws') : GN kc ks E X nL pc lv st ws := fun H locs ls hP hD hS hl => k H locs ls (hP.sub is (g_fm h)) (hD.sub is hn h) hS hl
theorem GN.objI (hX : Cx E X own cc nL rt Ts rm) {index a : Nat} (h1 : Cond.methodLink own index objectInit ∈ Ts) (h2 : Cond.instanceMethod objectInit ∈ Ts) (h3 : Cond.code objectInit ⟨#[0xb1]⟩ 1 none ∈ Ts) (hfr : 1 ≤ rm.frames) (hlo : 2 * 0 + (st.map fun v => v.category).sum + 12 ≤ rm.locals) (hd : decode cc pc = .ok (.invokespecial index, 3)) (k : GN kc ks E X nL (pc + 3) lv st ws) : GN kc ks E X nL pc lv (.ref a :: st) ws := by
  obtain ⟨p, l, e, R, s, m, args, below, meth, c, Q, A⟩ := X
  obtain ⟨hx, hb, hml, hown, hts, hK, hA, hr, hlocks, hR⟩ := hX
  dsimp only at hx hb hml hown hts hK hA hr hlocks hR
  intro H locs ls hP hD hS hl
  dsimp only at hD hS ⊢
  exact W.objInit hx hb hown (hts _ h1) (hts _ h2) (hts _ h3) (g := F0 m pc ls (.ref a :: st)) rfl (hl.1.trans hml.symm) rfl hd (by rw [hR]; exact hfr) (by rw [hR]; exact hlo) (k H locs ls hP hD hS hl)
theorem GN.putF (hX : Cx E X own cc nL rt Ts rm) (hin2 : X.2.2.2.2.2.2.2.2.1.name = "<init>") {C : String} {T : u_T} {N ci index a : Nat} {fs fs' : List Value} {v : Value} {ty : FieldType} (hin : ∀ w ∈ u_ws C T N, w ∈ Ts) (ty0 : Nat → FieldType) (hty : ∀ k, k < N → parseFieldDescriptor (T k).2.2.1 = some (ty0 k)) (hnm : ∀ a, a < N → ∀ b, b < N → a ≠ b → (T a).2.1 ≠ (T b).2.1) (q0 : Nat) (he : ws[q0]? = some (a, .inr (ci, fs))) (hc : vwCl[ci]? = some (C, T, N)) (k0 : Nat) (hk : k0 < N) (hlink : Cond.fieldLink own index (T k0).1 (T k0).2.1 (T k0).2.2.1 ∈ Ts) (hfin : (T k0).2.2.2 = true) (hdecl : (T k0).1 = own) (hpd : parseFieldDescriptor (T k0).2.2.1 = some ty) (hn : narrow ty v = v) (hfit : fits ty v = true) (hl0 : k0 < fs.length) (hf : fs.set k0 v = fs') (hw : ws.set q0 (a, .inr (ci, fs')) = ws') (hd : decode cc pc = .ok (.putfield index, 3)) (k : GN kc ks E X nL (pc + 3) lv st ws') : GN kc ks E X nL pc lv (v :: .ref a :: st) ws := by
  obtain ⟨p, l, e, R, s, m, args, below, meth, c, Q, A⟩ := X
  obtain ⟨hx, hb, hml, hown, hts, hK, hA, hr, hlocks, hR⟩ := hX
  dsimp only at hx hb hml hown hts hK hA hr hlocks hR
  intro H locs ls hP hD hS hl
  dsimp only at hD hS ⊢
  subst hf
  subst hw
  exact va_putF hx hb hts hin ty0 hty hnm hown hK.1 hP hD hS q0 he hc k0 hk (hts _ hlink) (fun _ h => h) hfin hin2 hdecl hpd hn hfit hl0 hd (fun H1 locs1 hP1 hD1 hS1 => k H1 locs1 ls hP1 hD1 hS1 hl)
theorem GN.new (hX : Cx E X own cc nL rt Ts rm) {C : String} {T : u_T} {N ci index : Nat} {fs : List Value} (hin : ∀ w ∈ u_ws C T N, w ∈ Ts) (ty : Nat → FieldType) (hty : ∀ k, k < N → parseFieldDescriptor (T k).2.2.1 = some (ty k)) (h1 : Cond.classLink own index C ∈ Ts) (h2 : Cond.instantiable C N ∈ Ts) (h3 : Cond.initialized C ∈ Ts) (hc : vwCl[ci]? = some (C, T, N)) (hfs : ∀ j, j < N → defaultValue (ty j) = vp_V fs j) (hkc : kc + 1 ≤ rm.cells) (hks : ks + N ≤ rm.slots) (hd : decode cc pc = .ok (.new index, 3)) (k : ∀ q, GN (kc + 1) (ks + N) E X nL (pc + 3) lv (.ref q :: st) (ws ++ [(q, .inr (ci, fs))])) : GN kc ks E X nL pc lv st ws := by
  obtain ⟨p, l, e, R, s, m, args, below, meth, c, Q, A⟩ := X
  obtain ⟨hx, hb, hml, hown, hts, hK, hA, hr, hlocks, hR⟩ := hX
  dsimp only at hx hb hml hown hts hK hA hr hlocks hR
  intro H locs ls hP hD hS hl
  dsimp only at hD hS ⊢
  exact va_new hx hb hts hin ty hty hown (hts _ h1) (hts _ h2) (hts _ h3) hK.1 hP hD hS hA hc hfs (by rw [hR]; exact hkc) (by rw [hR]; exact hks) hd (fun q H1 hP1 hD1 hS1 => k q H1 locs ls hP1 hD1 hS1 hl)
theorem GN.newI (hX : Cx E X own cc nL rt Ts rm) {n : Nat} (harr : Cond.arrayClass .int ∈ Ts) (hn : n < 2 ^ 31) (hby : n * componentBytes .int ≤ 536870912) (hkc : kc + 1 ≤ rm.cells) (hks : ks + n ≤ rm.slots) (hd : decode cc pc = .ok (.newarray .int, 2)) (k : ∀ q, GN (kc + 1) (ks + n) E X nL (pc + 2) lv (.ref q :: st) (ws ++ [(q, arI E n (fun _ => 0))])) : GN kc ks E X nL pc lv (.int (nI n) :: st) ws := by
  obtain ⟨p, l, e, R, s, m, args, below, meth, c, Q, A⟩ := X
  obtain ⟨hx, hb, hml, hown, hts, hK, hA, hr, hlocks, hR⟩ := hX
  dsimp only at hx hb hml hown hts hK hA hr hlocks hR
  intro H locs ls hP hD hS hl
  dsimp only at hD hS ⊢
  refine va_newa hx hb (atype := .int) (hts _ harr) (ty := .int) rfl hK.1 hP hD hS hA (a0 := (n, .inl (fun _ => 0))) (fun cA => rfl) (nI_pos hn) (nI_clamp hn) hby (by rw [hR]; exact hkc) (by rw [hR]; exact hks) hd (fun q cA H1 hK1 hP1 hD1 hS1 => ?_)
  have h1 : va_RA s cA .int := (hK1.2 4 (cA, .int) rfl).2
  have h2 : va_RA s (E.2.1 0) .int := (hK.1.2 0 (E.2.1 0, .int) rfl).2
  have e1 : cA = E.2.1 0 := Option.some.inj ((va_nm_int h1).symm.trans (va_nm_int h2))
  subst e1
  exact k q H1 locs ls hP1 hD1 hS1 hl
theorem GN.newJ (hX : Cx E X own cc nL rt Ts rm) {n : Nat} (harr : Cond.arrayClass .long ∈ Ts) (hn : n < 2 ^ 31) (hby : n * componentBytes .long ≤ 536870912) (hkc : kc + 1 ≤ rm.cells) (hks : ks + n ≤ rm.slots) (hd : decode cc pc = .ok (.newarray .long, 2)) (k : ∀ q, GN (kc + 1) (ks + n) E X nL (pc + 2) lv (.ref q :: st) (ws ++ [(q, arJ E n (fun _ => 0))])) : GN kc ks E X nL pc lv (.int (nI n) :: st) ws := by
  obtain ⟨p, l, e, R, s, m, args, below, meth, c, Q, A⟩ := X
  obtain ⟨hx, hb, hml, hown, hts, hK, hA, hr, hlocks, hR⟩ := hX
  dsimp only at hx hb hml hown hts hK hA hr hlocks hR
  intro H locs ls hP hD hS hl
  dsimp only at hD hS ⊢
  refine va_newa hx hb (atype := .long) (hts _ harr) (ty := .long) rfl hK.1 hP hD hS hA (a0 := (n, .inr (.inl (fun _ => 0)))) (fun cA => rfl) (nI_pos hn) (nI_clamp hn) hby (by rw [hR]; exact hkc) (by rw [hR]; exact hks) hd (fun q cA H1 hK1 hP1 hD1 hS1 => ?_)
  have h1 : va_RA s cA .long := (hK1.2 4 (cA, .long) rfl).2
  have h2 : va_RA s (E.2.1 1) .long := (hK.1.2 1 (E.2.1 1, .long) rfl).2
  have e1 : cA = E.2.1 1 := Option.some.inj ((va_nm_long h1).symm.trans (va_nm_long h2))
  subst e1
  exact k q H1 locs ls hP1 hD1 hS1 hl
theorem GN.newB (hX : Cx E X own cc nL rt Ts rm) {n : Nat} (harr : Cond.arrayClass .byte ∈ Ts) (hn : n < 2 ^ 31) (hby : n * componentBytes .byte ≤ 536870912) (hkc : kc + 1 ≤ rm.cells) (hks : ks + n ≤ rm.slots) (hd : decode cc pc = .ok (.newarray .byte, 2)) (k : ∀ q, GN (kc + 1) (ks + n) E X nL (pc + 2) lv (.ref q :: st) (ws ++ [(q, arB E n (fun _ => 0))])) : GN kc ks E X nL pc lv (.int (nI n) :: st) ws := by
  obtain ⟨p, l, e, R, s, m, args, below, meth, c, Q, A⟩ := X
  obtain ⟨hx, hb, hml, hown, hts, hK, hA, hr, hlocks, hR⟩ := hX
  dsimp only at hx hb hml hown hts hK hA hr hlocks hR
  intro H locs ls hP hD hS hl
  dsimp only at hD hS ⊢
  refine va_newa hx hb (atype := .byte) (hts _ harr) (ty := .byte) rfl hK.1 hP hD hS hA (a0 := (n, .inl (fun _ => 0))) (fun cA => rfl) (nI_pos hn) (nI_clamp hn) hby (by rw [hR]; exact hkc) (by rw [hR]; exact hks) hd (fun q cA H1 hK1 hP1 hD1 hS1 => ?_)
  have h1 : va_RA s cA .byte := (hK1.2 4 (cA, .byte) rfl).2
  have h2 : va_RA s (E.2.1 2) .byte := (hK.1.2 2 (E.2.1 2, .byte) rfl).2
  have e1 : cA = E.2.1 2 := Option.some.inj ((va_nm_byte h1).symm.trans (va_nm_byte h2))
  subst e1
  exact k q H1 locs ls hP1 hD1 hS1 hl
theorem GN.newO (hX : Cx E X own cc nL rt Ts rm) (hxk : xK X.2.2.2.2.1) {n index : Nat} (h1 : Cond.classLink own index RX1 ∈ Ts) (hn : n < 2 ^ 31) (hby : n * 4 ≤ 536870912) (hkc : kc + 1 ≤ rm.cells) (hks : ks + n ≤ rm.slots) (hd : decode cc pc = .ok (.anewarray index, 3)) (k : ∀ q, GN (kc + 1) (ks + n) E X nL (pc + 3) lv (.ref q :: st) (ws ++ [(q, arO E n (fun _ => none))])) : GN kc ks E X nL pc lv (.int (nI n) :: st) ws := by
  obtain ⟨p, l, e, R, s, m, args, below, meth, c, Q, A⟩ := X
  obtain ⟨hx, hb, hml, hown, hts, hK, hA, hr, hlocks, hR⟩ := hX
  dsimp only at hx hb hml hown hts hK hA hr hlocks hR
  intro H locs ls hP hD hS hl
  dsimp only at hD hS ⊢
  refine va_newq hx hb hown (hts _ h1) hxk.1 hK.1 hP hD hS hA (nI_pos hn) (nI_clamp hn) hby (by rw [hR]; exact hkc) (by rw [hR]; exact hks) hd (fun q cA H1 hK1 hP1 hD1 hS1 => ?_)
  have h1 : va_RA s cA (.object RX1) := (hK1.2 4 (cA, .object RX1) rfl).2
  have h2 : va_RA s (E.2.1 3) (.object RX1) := (hK.1.2 3 (E.2.1 3, .object RX1) rfl).2
  have e1 : cA = E.2.1 3 := Option.some.inj ((va_nmO h1 rfl).symm.trans (va_nmO h2 rfl))
  subst e1
  exact k q H1 locs ls hP1 hD1 hS1 hl
theorem GN.aast (hX : Cx E X own cc nL rt Ts rm) {a n j v : Nat} {f f' : Nat → Option Nat} {vs : List Value} (q0 qk : Nat) (ha : ws[q0]? = some (a, arO E n f)) (hv : ws[qk]? = some (v, .inr (1, vs))) (hj : j < n) (hn : n < 2 ^ 31) (hf : va_up f j (some v) = f') (hw : ws.set q0 (a, arO E n f') = ws') (hd : decode cc pc = .ok (.aastore, 1)) (k : GN kc ks E X nL (pc + 1) lv st ws') : GN kc ks E X nL pc lv (.ref v :: .int (nI j) :: .ref a :: st) ws := by
  obtain ⟨p, l, e, R, s, m, args, below, meth, c, Q, A⟩ := X
  obtain ⟨hx, hb, hml, hown, hts, hK, hA, hr, hlocks, hR⟩ := hX
  dsimp only at hx hb hml hown hts hK hA hr hlocks hR
  intro H locs ls hP hD hS hl
  dsimp only at hD hS ⊢
  subst hf
  subst hw
  have e1 : (nI j).toNatClampNeg = j := nI_clamp (by omega)
  refine va_astq hx hb hK.1 hP hD hS q0 3 qk 1 (r := (RX1, TX1, 3)) ha rfl hv rfl (vp_in_nI hj hn) hd (fun H1 locs1 hP1 hD1 hS1 => ?_)
  rw [e1] at hP1 hD1
  exact k H1 locs1 ls hP1 hD1 hS1 hl
theorem GN.vretN (hX : Cx E X own cc nL none Ts rm) {F : AD → Prop} {w1 : AD → va_W} (hQ : QN E X kc ks F w1) (u : AD) (hF : F u) (hd : decode cc pc = .ok (.return_, 1)) (hw : ws = w1 u) : GN kc ks E X nL pc lv [] ws := by
  obtain ⟨p, l, e, R, s, m, args, below, meth, c, Q, A⟩ := X
  obtain ⟨hx, hb, hml, hown, hts, hK, hA, hr, hlocks, hR⟩ := hX
  dsimp only at hx hb hml hown hts hK hA hr hlocks hR
  intro H locs ls hP hD hS hl
  dsimp only at hD hS ⊢
  subst hw
  unfold QN at hQ
  dsimp only at hQ
  subst hQ
  exact W.vret hx hb hr (fun t ht hW => ⟨⟨u, rfl, hF, by rw [ht]; exact hP, hD⟩, hS.F ht⟩) hS.2.2 hd hlocks
theorem GN.cI (hX : Cx E X own cc nL rt Ts rm) (hxk : xK X.2.2.2.2.1) {index maxL b mc ms : Nat} {y : MethodName} {wy wy' : List Cond} {bytes : ByteArray} {ry : Room} {wc wr : va_W} {F : AD → Prop} {w1 : AD → va_W} (hM : CN X.2.1 y wy ry E [.ref b] wc mc ms F w1) (hG : GoodIn Ts wy) (hl1 : Cond.methodLink own index y ∈ Ts) (hI : Cond.initialized y.cls ∈ Ts) (h2 : Cond.instanceMethod y ∈ Ts) (hyn : y.name = "<init>") (hwy : wy = Cond.code y bytes maxL none :: wy') (hrc : ry.cells = mc) (hrs : ry.slots = ms) (hdd : y.cls ≠ "java/lang/invoke/MethodHandle" ∧ y.cls ≠ "java/lang/invoke/VarHandle" ∧ (parseMethodDescriptor y.desc).map (fun d => d.parameters.length) = some 0) (hRR : ry.frames + 1 ≤ rm.frames ∧ 8 + (maxL + 11) + ry.locals ≤ rm.locals) (hkc : kc + mc ≤ rm.cells) (hks : ks + ms ≤ rm.slots) (isC isR : List Nat) (hC : isC.map (fun i => ws[i]?) = wc.map some) (hRe : isR.map (fun i => ws[i]?) = wr.map some) (hnd : va_nd isC = true ∧ va_nd isR = true ∧ ∀ i ∈ isR, i ∉ isC) (hrs0 : (st.map fun v => v.category).sum ≤ 8) (hd : decode cc pc = .ok (.invokespecial index, 3)) (k : ∀ u, F u → GN (kc + mc) (ks + ms) E X nL (pc + 3) lv st (wr ++ w1 u)) : GN kc ks E X nL pc lv (.ref b :: st) ws := by
  obtain ⟨p, l, e, R, s, m, args, below, meth, c, Q, A⟩ := X
  obtain ⟨hx, hb, hml, hown, hts, hK, hA, hr, hlocks, hR⟩ := hX
  dsimp only at hx hb hml hown hts hK hA hr hlocks hR
  intro H locs ls hP hD hS hl
  dsimp only at hD hS ⊢
  obtain ⟨hn1, hn2, hdis⟩ := hnd
  have hR1 : ry.frames + 1 ≤ R.frames := by rw [hR]; exact hRR.1
  have hR2 : 8 + (maxL + 11) + ry.locals ≤ R.locals := by rw [hR]; exact hRR.2
  have hPc : va_P E.1 vwCl wc H := hP.sub isC (g_fm hC)
  have hDc := hD.sub isC hn1 hC
  have hFc := va_free hD hS hA isC hC
  refine va_callv (A1 := va_A wc H.size) (rest := st) (va_runI (As := []) (rest := st) ⟨hx, hb, hml, hown, hts⟩ (hM H.size) (cwI 0 hts hG hwy hrc hrs (hts _ hI) (hts _ hl1) (hts _ h2) hyn hdd ⟨hR1, hR2⟩) ⟨fun a U g mk q => by obtain ⟨q0, q1, qP, qK, qD⟩ := q; exact ⟨q0, q1, qP, ⟨qK.1.calling, qK.2.calling⟩, qD⟩, fun U hU hW => ⟨rfl, by rw [hU], by rw [hU]; exact hPc, ⟨hK.call hS hU hW hFc, hxk.call hW⟩, hDc.weaken (fun _ _ _ _ => trivial)⟩⟩ rfl rfl hl.1 rfl (lv_room hrs0) hd ⟨by rw [hR]; exact hkc, by rw [hR]; exact hks⟩) hS (fun q _ h => hFc q h) hFc (fun u t H1 locs1 ht hvm hw hB hz1 hk1 hS1 => ?_)
  obtain ⟨hP1, hD1⟩ := hB
  rw [ht] at hP1
  obtain ⟨hP2, hD2⟩ := va_join hP hD isC isR hC hRe hn2 hdis hk1 hFc hP1 hD1
  exact k u hw H1 locs1 ls hP2 hD2 hS1 hl
theorem GN.cIN (hX : Cx E X own cc nL rt Ts rm) (hxk : xK X.2.2.2.2.1) {index maxL b mc ms : Nat} {y : MethodName} {wy wy' : List Cond} {bytes : ByteArray} {ry : Room} {wc wr : va_W} {F : AD → Prop} {w1 : AD → va_W} (hM : CN X.2.1 y wy ry E [.ref b] wc mc ms F w1) (hG : GoodIn Ts wy) {host : String} (hl1 : va_Nw (.methodLinkNest own index y host) X.2.2.2.2.1) (hI : Cond.initialized y.cls ∈ Ts) (h2 : Cond.instanceMethod y ∈ Ts) (hyn : y.name = "<init>") (hwy : wy = Cond.code y bytes maxL none :: wy') (hrc : ry.cells = mc) (hrs : ry.slots = ms) (hdd : y.cls ≠ "java/lang/invoke/MethodHandle" ∧ y.cls ≠ "java/lang/invoke/VarHandle" ∧ (parseMethodDescriptor y.desc).map (fun d => d.parameters.length) = some 0) (hRR : ry.frames + 1 ≤ rm.frames ∧ 8 + (maxL + 11) + ry.locals ≤ rm.locals) (hkc : kc + mc ≤ rm.cells) (hks : ks + ms ≤ rm.slots) (isC isR : List Nat) (hC : isC.map (fun i => ws[i]?) = wc.map some) (hRe : isR.map (fun i => ws[i]?) = wr.map some) (hnd : va_nd isC = true ∧ va_nd isR = true ∧ ∀ i ∈ isR, i ∉ isC) (hrs0 : (st.map fun v => v.category).sum ≤ 8) (hd : decode cc pc = .ok (.invokespecial index, 3)) (k : ∀ u, F u → GN (kc + mc) (ks + ms) E X nL (pc + 3) lv st (wr ++ w1 u)) : GN kc ks E X nL pc lv (.ref b :: st) ws := by
  obtain ⟨p, l, e, R, s, m, args, below, meth, c, Q, A⟩ := X
  obtain ⟨hx, hb, hml, hown, hts, hK, hA, hr, hlocks, hR⟩ := hX
  dsimp only at hx hb hml hown hts hK hA hr hlocks hR
  intro H locs ls hP hD hS hl
  dsimp only at hD hS ⊢
  obtain ⟨hn1, hn2, hdis⟩ := hnd
  have hR1 : ry.frames + 1 ≤ R.frames := by rw [hR]; exact hRR.1
  have hR2 : 8 + (maxL + 11) + ry.locals ≤ R.locals := by rw [hR]; exact hRR.2
  have hPc : va_P E.1 vwCl wc H := hP.sub isC (g_fm hC)
  have hDc := hD.sub isC hn1 hC
  have hFc := va_free hD hS hA isC hC
  refine va_callv (A1 := va_A wc H.size) (rest := st) (va_runIN (As := []) (rest := st) ⟨hx, hb, hml, hown, hts⟩ (hM H.size) ⟨va_cnB 0 hts hG hwy hrc hrs hl1 (hts _ hI) hdd ⟨hR1, hR2⟩, hyn, hts _ h2⟩ ⟨fun a U g mk q => by obtain ⟨q0, q1, qP, qK, qD⟩ := q; exact ⟨q0, q1, qP, ⟨qK.1.calling, qK.2.calling⟩, qD⟩, fun U hU hW => ⟨rfl, by rw [hU], by rw [hU]; exact hPc, ⟨hK.call hS hU hW hFc, hxk.call hW⟩, hDc.weaken (fun _ _ _ _ => trivial)⟩⟩ rfl rfl hl.1 rfl (lv_room hrs0) hd ⟨by rw [hR]; exact hkc, by rw [hR]; exact hks⟩) hS (fun q _ h => hFc q h) hFc (fun u t H1 locs1 ht hvm hw hB hz1 hk1 hS1 => ?_)
  obtain ⟨hP1, hD1⟩ := hB
  rw [ht] at hP1
  obtain ⟨hP2, hD2⟩ := va_join hP hD isC isR hC hRe hn2 hdis hk1 hFc hP1 hD1
  exact k u hw H1 locs1 ls hP2 hD2 hS1 hl
theorem GN.sld (hX : Cx E X own cc nL rt Ts rm) {b L j : Nat} {xs : Nat → Int32} (hXs : va_X b L xs X.2.2.2.2.1 X.2.2.2.2.1.heap) (hbl : b < X.2.2.2.2.1.heap.size) (hbA : ¬ X.2.2.2.2.2.2.2.2.2.2.2 b) (hj : j < L) (hn : L < 2 ^ 31) (hd : decode cc pc = .ok (.iaload, 1)) (k : GN kc ks E X nL (pc + 1) lv (.int (xs j) :: st) ws) : GN kc ks E X nL pc lv (.int (nI j) :: .ref b :: st) ws := by
  obtain ⟨p, l, e, R, s, m, args, below, meth, c, Q, A⟩ := X
  obtain ⟨hx, hb, hml, hown, hts, hK, hA, hr, hlocks, hR⟩ := hX
  dsimp only at hx hb hml hown hts hK hA hr hlocks hR
  intro H locs ls hP hD hS hl
  dsimp only at hD hS ⊢
  refine va_sld hx hb hXs hbl hbA hS (vp_in_nI hj hn) hd ?_
  rw [nI_clamp (by omega)]
  exact k H locs ls hP hD hS hl
theorem GN.slen (hX : Cx E X own cc nL rt Ts rm) {b L : Nat} {xs : Nat → Int32} (hXs : va_X b L xs X.2.2.2.2.1 X.2.2.2.2.1.heap) (hbl : b < X.2.2.2.2.1.heap.size) (hbA : ¬ X.2.2.2.2.2.2.2.2.2.2.2 b) (hd : decode cc pc = .ok (.arraylength, 1)) (k : GN kc ks E X nL (pc + 1) lv (.int (nI L) :: st) ws) : GN kc ks E X nL pc lv (.ref b :: st) ws := by
  obtain ⟨p, l, e, R, s, m, args, below, meth, c, Q, A⟩ := X
  obtain ⟨hx, hb, hml, hown, hts, hK, hA, hr, hlocks, hR⟩ := hX
  dsimp only at hx hb hml hown hts hK hA hr hlocks hR
  intro H locs ls hP hD hS hl
  dsimp only at hD hS ⊢
  exact va_slen hx hb hXs hbl hbA hS hd (k H locs ls hP hD hS hl)
end GNR
