/-! ===== the judgement G: 'from pc with locals lv, stack st and world ws the method comes to its end' ===== -/
abbrev EV : Type := va_G × (Nat → ClassId) × (Nat → Nat)
abbrev CX : Type := Program × Launch × Env × Room × State × MethodId × Array Value × List Frame × Method × Code × (State → Prop) × (Nat → Prop)
abbrev gtys (E : EV) : List (ClassId × FieldType) := [(E.2.1 0, .int), (E.2.1 1, .long), (E.2.1 2, .byte), (E.2.1 3, .object RX1)]
-- the texts, by their places: lime elm sapling stump oak graft at age cut meet word
def jsP : List Nat := [103, 93, 95, 97, 99, 101, 63, 69, 50, 56, 58]
def jsT : List String := ["lime", "elm", "sapling", "stump", "oak", "graft", "at", "age", "cut", "meet", "word"]
def jsL : List Nat := [4, 3, 7, 5, 3, 5, 2, 3, 3, 4, 4]
def jsB : List (List Int32) := [[108, 105, 109, 101], [101, 108, 109], [115, 97, 112, 108, 105, 110, 103], [115, 116, 117, 109, 112], [111, 97, 107], [103, 114, 97, 102, 116], [97, 116], [97, 103, 101], [99, 117, 116], [109, 101, 101, 116], [119, 111, 114, 100]]
abbrev adK (E : EV) (i : Nat) : Nat := E.2.2 (2 * i)
abbrev adV (E : EV) (i : Nat) : Nat := E.2.2 (2 * i + 1)
def kK (E : EV) (A : Nat → Prop) (U : State) : Prop := va_K E.1 vwCl (gtys E) U ∧ va_Nw (.methodLinkNest RX0 43 yX3_treeAt RX3) U ∧ va_Nw (.methodLinkNest RX2 71 yX3_treeAt RX3) U ∧ vk_S 11 jsL jsB (adK E) (adV E) A U U.heap ∧ (∀ i, i < 11 → vk_R RX2 (jsP.getD i 0) (jsT.getD i "") (adK E i) U) ∧ va_Z "java/lang/String" "COMPACT_STRINGS" "Z" (.int 1) A U U.heap ∧ va_Zq "jdk/internal/util/Preconditions" "SIOOBE_FORMATTER" "Ljava/util/function/BiFunction;" A U U.heap
theorem kK.call {E : EV} {A B : Nat → Prop} {s U : State} {H : Heap} {locs : List Loc} (h : kK E A s) (hS : va_S A s.heap H locs) (hU : U.heap = H) (hW : s.WarmedH U.vm) (hBA : ∀ q, B q → A q) : kK E B U := by
  obtain ⟨h1, h2, h3, h4, h5, h6, h7⟩ := h
  subst hU
  exact ⟨va_K.moved hW.alike h1, va_Nw.warmM hW h2, va_Nw.warmM hW h3, ((h4.kept hS.2.1).moved hW.alike).narrow hBA, fun i hi => vk_R.warm hW (h5 i hi), ((h6.kept hS.2.1).moved hW.alike).narrow hBA, ((h7.kept hS.2.1).moved hW.alike).narrow hBA⟩
theorem kK.calling {E : EV} {A : Nat → Prop} {U : State} {g : JFrame} {mk : MethodId} {a : Array Value} (h : kK E A U) : kK E A (U.calling g mk a) := by
  obtain ⟨h1, h2, h3, h4, h5, h6, h7⟩ := h
  exact ⟨va_K.moved (u := U) (U := U.calling g mk a) (Vm.Alike.refl U.vm) h1, va_Nw.same rfl rfl h2, va_Nw.same rfl rfl h3, vk_S.moved (u := U) (U := U.calling g mk a) (Vm.Alike.refl U.vm) h4, fun i hi => vk_R.same (u := U) (U := U.calling g mk a) rfl (h5 i hi), va_Z.moved (u := U) (U := U.calling g mk a) (Vm.Alike.refl U.vm) h6, va_Zq.moved (u := U) (U := U.calling g mk a) (Vm.Alike.refl U.vm) h7⟩
def G (E : EV) (X : CX) (nL : Nat) (pc : Nat) (lv : List (Nat × Value)) (st : List Value) (ws : va_W) : Prop :=
  ∀ (H : Heap) (locs : List Loc) (ls : Array Slot), va_P E.1 vwCl ws H → va_D X.2.2.2.2.2.2.2.2.2.2.2 ws → va_S X.2.2.2.2.2.2.2.2.2.2.2 X.2.2.2.2.1.heap H locs → lv_has ls nL lv → W X.1 X.2.1 X.2.2.1 X.2.2.2.1 X.2.2.2.2.1 X.2.2.2.2.2.1 X.2.2.2.2.2.2.1 X.2.2.2.2.2.2.2.1 X.2.2.2.2.2.2.2.2.1 X.2.2.2.2.2.2.2.2.2.1 H locs 0 0 X.2.2.2.2.2.2.2.2.2.2.1 (F0 X.2.2.2.2.2.1 pc ls st)
def Cx (E : EV) (X : CX) (own : String) (cc : ByteArray) (nL : Nat) (rt : Option FieldType) (Ts : List Cond) (rm : Room) : Prop :=
  X.1.tables.exec = Jvm.exec ∧ X.2.2.2.2.2.2.2.2.2.1.code = cc ∧ X.2.2.2.2.2.2.2.2.2.1.maxLocals = nL ∧ X.2.2.2.2.1.vm.findClass own = some X.2.2.2.2.2.1.cls ∧ (∀ w ∈ Ts, w.before X.2.2.2.2.2.2.1 X.2.2.2.2.1 = true) ∧ kK E X.2.2.2.2.2.2.2.2.2.2.2 X.2.2.2.2.1 ∧ (∀ q, X.2.2.2.2.1.heap.size ≤ q → X.2.2.2.2.2.2.2.2.2.2.2 q) ∧ X.2.2.2.2.2.2.2.2.1.sig.returnType = rt ∧ X.2.2.2.2.2.2.2.2.1.locks = false ∧ X.2.2.2.1 = rm
def CI (l : Launch) (y : MethodName) (wy : List Cond) (rm : Room) (E : EV) (av : List Value) (w0 w1 : va_W) (r : Int32) : Prop := ∀ sz : Nat, Met l y wy rm (va_Pc av (fun U => U.heap.size = sz ∧ va_P E.1 vwCl w0 U.heap ∧ kK E (va_A w0 sz) U ∧ va_D (fun _ => True) w0)) (va_Qi (fun (x : Int32) (_ : Unit) => x = r) (fun _ t => va_P E.1 vwCl w1 t.heap ∧ va_D (va_A w0 sz) w1) (va_A w0 sz)) 0 0 (va_A w0 sz)
def CL (l : Launch) (y : MethodName) (wy : List Cond) (rm : Room) (E : EV) (av : List Value) (w0 w1 : va_W) (r : Int64) : Prop := ∀ sz : Nat, Met l y wy rm (va_Pc av (fun U => U.heap.size = sz ∧ va_P E.1 vwCl w0 U.heap ∧ kK E (va_A w0 sz) U ∧ va_D (fun _ => True) w0)) (va_Ql (fun (x : Int64) (_ : Unit) => x = r) (fun _ t => va_P E.1 vwCl w1 t.heap ∧ va_D (va_A w0 sz) w1) (va_A w0 sz)) 0 0 (va_A w0 sz)
def CV (l : Launch) (y : MethodName) (wy : List Cond) (rm : Room) (E : EV) (av : List Value) (w0 w1 : va_W) : Prop := ∀ sz : Nat, Met l y wy rm (va_Pc av (fun U => U.heap.size = sz ∧ va_P E.1 vwCl w0 U.heap ∧ kK E (va_A w0 sz) U ∧ va_D (fun _ => True) w0)) (va_Qv (fun (_ : Unit) => True) (fun _ t => va_P E.1 vwCl w1 t.heap ∧ va_D (va_A w0 sz) w1) (va_A w0 sz)) 0 0 (va_A w0 sz)
def CR (l : Launch) (y : MethodName) (wy : List Cond) (rm : Room) (E : EV) (av : List Value) (w0 w1 : va_W) (r : Nat) : Prop := ∀ sz : Nat, Met l y wy rm (va_Pc av (fun U => U.heap.size = sz ∧ va_P E.1 vwCl w0 U.heap ∧ kK E (va_A w0 sz) U ∧ va_D (fun _ => True) w0)) (va_Qr (fun (_ : Unit) => True) (fun _ a t => a = r ∧ va_P E.1 vwCl w1 t.heap ∧ va_D (va_A w0 sz) w1) (va_A w0 sz)) 0 0 (va_A w0 sz)
def QI (E : EV) (X : CX) (w1 : va_W) (r : Int32) : Prop := X.2.2.2.2.2.2.2.2.2.2.1 = MQ X.2.2.2.2.2.2.2.1 (va_Qi (fun (x : Int32) (_ : Unit) => x = r) (fun _ t => va_P E.1 vwCl w1 t.heap ∧ va_D X.2.2.2.2.2.2.2.2.2.2.2 w1) X.2.2.2.2.2.2.2.2.2.2.2) X.2.2.2.2.2.2.1 X.2.2.2.2.1 0 0 X.2.2.2.2.2.2.2.2.2.2.2
def QL (E : EV) (X : CX) (w1 : va_W) (r : Int64) : Prop := X.2.2.2.2.2.2.2.2.2.2.1 = MQ X.2.2.2.2.2.2.2.1 (va_Ql (fun (x : Int64) (_ : Unit) => x = r) (fun _ t => va_P E.1 vwCl w1 t.heap ∧ va_D X.2.2.2.2.2.2.2.2.2.2.2 w1) X.2.2.2.2.2.2.2.2.2.2.2) X.2.2.2.2.2.2.1 X.2.2.2.2.1 0 0 X.2.2.2.2.2.2.2.2.2.2.2
def QV (E : EV) (X : CX) (w1 : va_W) : Prop := X.2.2.2.2.2.2.2.2.2.2.1 = MQ X.2.2.2.2.2.2.2.1 (va_Qv (fun (_ : Unit) => True) (fun _ t => va_P E.1 vwCl w1 t.heap ∧ va_D X.2.2.2.2.2.2.2.2.2.2.2 w1) X.2.2.2.2.2.2.2.2.2.2.2) X.2.2.2.2.2.2.1 X.2.2.2.2.1 0 0 X.2.2.2.2.2.2.2.2.2.2.2
def QR (E : EV) (X : CX) (w1 : va_W) (r : Nat) : Prop := X.2.2.2.2.2.2.2.2.2.2.1 = MQ X.2.2.2.2.2.2.2.1 (va_Qr (fun (_ : Unit) => True) (fun _ a t => a = r ∧ va_P E.1 vwCl w1 t.heap ∧ va_D X.2.2.2.2.2.2.2.2.2.2.2 w1) X.2.2.2.2.2.2.2.2.2.2.2) X.2.2.2.2.2.2.1 X.2.2.2.2.1 0 0 X.2.2.2.2.2.2.2.2.2.2.2

theorem CI.of {l : Launch} {y : MethodName} {wy wy' : List Cond} {rm : Room} {E : EV} {av : List Value} {w0 w1 : va_W} {r : Int32} {own : String} {cc : ByteArray} {nL : Nat} {rt : Option FieldType} (hy : plainName y.cls = true) (hc : y.cls = own) (hw : wy = Cond.code y cc nL rt :: wy') (hn : (lg_sl av).length ≤ nL) (body : ∀ X : CX, Cx E X own cc nL rt wy rm → QI E X w1 r → G E X nL 0 (lv_args 0 av) [] w0) : CI l y wy rm E av w0 w1 r := by
  intro sz
  refine Met.ofW (cc := cc) (maxL := nL) (ret := rt) hy hw ?_
  intro p e s m args below meth c s₁ B hml hv
  obtain ⟨rfl, hsz, hP, hK, hD0⟩ := hv
  have hx := B.exec
  have hb := B.bytes
  have hr := B.returns
  have hts := atoms_spec (ws := wy) B.pre
  have hown : s.vm.findClass own = some m.cls := by rw [← hc]; exact findClass_of_methodNamed B.named
  have hlocks := B.notSynchronized
  subst hsz
  have hD := hD0.self (sz := s.heap.size)
  have hl := lv_entry av (n := nL) hn
  rw [lg_entry_eq]
  exact body (p, l, e, rm, s, m, av.toArray, below, meth, c, MQ below (va_Qi (fun (x : Int32) (_ : Unit) => x = r) (fun _ t => va_P E.1 vwCl w1 t.heap ∧ va_D (va_A w0 s.heap.size) w1) (va_A w0 s.heap.size)) av.toArray s 0 0 (va_A w0 s.heap.size), va_A w0 s.heap.size) ⟨hx, hb, hml, hown, hts, hK, fun q h => Or.inr h, hr, hlocks, rfl⟩ rfl s.heap [] _ hP hD va_S.rf hl
theorem CL.of {l : Launch} {y : MethodName} {wy wy' : List Cond} {rm : Room} {E : EV} {av : List Value} {w0 w1 : va_W} {r : Int64} {own : String} {cc : ByteArray} {nL : Nat} {rt : Option FieldType} (hy : plainName y.cls = true) (hc : y.cls = own) (hw : wy = Cond.code y cc nL rt :: wy') (hn : (lg_sl av).length ≤ nL) (body : ∀ X : CX, Cx E X own cc nL rt wy rm → QL E X w1 r → G E X nL 0 (lv_args 0 av) [] w0) : CL l y wy rm E av w0 w1 r := by
  intro sz
  refine Met.ofW (cc := cc) (maxL := nL) (ret := rt) hy hw ?_
  intro p e s m args below meth c s₁ B hml hv
  obtain ⟨rfl, hsz, hP, hK, hD0⟩ := hv
  have hx := B.exec
  have hb := B.bytes
  have hr := B.returns
  have hts := atoms_spec (ws := wy) B.pre
  have hown : s.vm.findClass own = some m.cls := by rw [← hc]; exact findClass_of_methodNamed B.named
  have hlocks := B.notSynchronized
  subst hsz
  have hD := hD0.self (sz := s.heap.size)
  have hl := lv_entry av (n := nL) hn
  rw [lg_entry_eq]
  exact body (p, l, e, rm, s, m, av.toArray, below, meth, c, MQ below (va_Ql (fun (x : Int64) (_ : Unit) => x = r) (fun _ t => va_P E.1 vwCl w1 t.heap ∧ va_D (va_A w0 s.heap.size) w1) (va_A w0 s.heap.size)) av.toArray s 0 0 (va_A w0 s.heap.size), va_A w0 s.heap.size) ⟨hx, hb, hml, hown, hts, hK, fun q h => Or.inr h, hr, hlocks, rfl⟩ rfl s.heap [] _ hP hD va_S.rf hl
theorem CV.of {l : Launch} {y : MethodName} {wy wy' : List Cond} {rm : Room} {E : EV} {av : List Value} {w0 w1 : va_W} {own : String} {cc : ByteArray} {nL : Nat} {rt : Option FieldType} (hy : plainName y.cls = true) (hc : y.cls = own) (hw : wy = Cond.code y cc nL rt :: wy') (hn : (lg_sl av).length ≤ nL) (body : ∀ X : CX, Cx E X own cc nL rt wy rm → QV E X w1 → G E X nL 0 (lv_args 0 av) [] w0) : CV l y wy rm E av w0 w1 := by
  intro sz
  refine Met.ofW (cc := cc) (maxL := nL) (ret := rt) hy hw ?_
  intro p e s m args below meth c s₁ B hml hv
  obtain ⟨rfl, hsz, hP, hK, hD0⟩ := hv
  have hx := B.exec
  have hb := B.bytes
  have hr := B.returns
  have hts := atoms_spec (ws := wy) B.pre
  have hown : s.vm.findClass own = some m.cls := by rw [← hc]; exact findClass_of_methodNamed B.named
  have hlocks := B.notSynchronized
  subst hsz
  have hD := hD0.self (sz := s.heap.size)
  have hl := lv_entry av (n := nL) hn
  rw [lg_entry_eq]
  exact body (p, l, e, rm, s, m, av.toArray, below, meth, c, MQ below (va_Qv (fun (_ : Unit) => True) (fun _ t => va_P E.1 vwCl w1 t.heap ∧ va_D (va_A w0 s.heap.size) w1) (va_A w0 s.heap.size)) av.toArray s 0 0 (va_A w0 s.heap.size), va_A w0 s.heap.size) ⟨hx, hb, hml, hown, hts, hK, fun q h => Or.inr h, hr, hlocks, rfl⟩ rfl s.heap [] _ hP hD va_S.rf hl
theorem CR.of {l : Launch} {y : MethodName} {wy wy' : List Cond} {rm : Room} {E : EV} {av : List Value} {w0 w1 : va_W} {r : Nat} {own : String} {cc : ByteArray} {nL : Nat} {rt : Option FieldType} (hy : plainName y.cls = true) (hc : y.cls = own) (hw : wy = Cond.code y cc nL rt :: wy') (hn : (lg_sl av).length ≤ nL) (body : ∀ X : CX, Cx E X own cc nL rt wy rm → QR E X w1 r → G E X nL 0 (lv_args 0 av) [] w0) : CR l y wy rm E av w0 w1 r := by
  intro sz
  refine Met.ofW (cc := cc) (maxL := nL) (ret := rt) hy hw ?_
  intro p e s m args below meth c s₁ B hml hv
  obtain ⟨rfl, hsz, hP, hK, hD0⟩ := hv
  have hx := B.exec
  have hb := B.bytes
  have hr := B.returns
  have hts := atoms_spec (ws := wy) B.pre
  have hown : s.vm.findClass own = some m.cls := by rw [← hc]; exact findClass_of_methodNamed B.named
  have hlocks := B.notSynchronized
  subst hsz
  have hD := hD0.self (sz := s.heap.size)
  have hl := lv_entry av (n := nL) hn
  rw [lg_entry_eq]
  exact body (p, l, e, rm, s, m, av.toArray, below, meth, c, MQ below (va_Qr (fun (_ : Unit) => True) (fun _ a t => a = r ∧ va_P E.1 vwCl w1 t.heap ∧ va_D (va_A w0 s.heap.size) w1) (va_A w0 s.heap.size)) av.toArray s 0 0 (va_A w0 s.heap.size), va_A w0 s.heap.size) ⟨hx, hb, hml, hown, hts, hK, fun q h => Or.inr h, hr, hlocks, rfl⟩ rfl s.heap [] _ hP hD va_S.rf hl
section GR
variable {E : EV} {X : CX} {own : String} {cc : ByteArray} {nL : Nat} {rt : Option FieldType} {Ts : List Cond} {rm : Room} {pc : Nat} {lv lv' : List (Nat × Value)} {st : List Value} {ws ws' : va_W}
theorem G.lvp (ks : List Nat) (h : lv_pick lv ks = lv') (k : G E X nL pc lv' st ws) : G E X nL pc lv st ws := fun H locs ls hP hD hS hl => k H locs ls hP hD hS (lv_sub hl ks h)
theorem G.we (h : ws = ws') (k : G E X nL pc lv st ws') : G E X nL pc lv st ws := h ▸ k
theorem G.ie {x y : Int32} (h : x = y) (k : G E X nL pc lv (.int y :: st) ws) : G E X nL pc lv (.int x :: st) ws := h ▸ k
theorem G.le {x y : Int64} (h : x = y) (k : G E X nL pc lv (.long y :: st) ws) : G E X nL pc lv (.long x :: st) ws := h ▸ k
theorem G.ve {x y : Value} (h : x = y) (k : G E X nL pc lv (y :: st) ws) : G E X nL pc lv (x :: st) ws := h ▸ k
theorem G.lve (h : lv = lv') (k : G E X nL pc lv' st ws) : G E X nL pc lv st ws := h ▸ k
theorem G.iconst (hX : Cx E X own cc nL rt Ts rm) {n : Int} {v : Int32} (hv : Int32.ofInt n = v) (hd : decode cc pc = .ok (.iconst n, 1)) (k : G E X nL (pc + 1) lv (.int v :: st) ws) : G E X nL pc lv (st) ws := by
  obtain ⟨p, l, e, R, s, m, args, below, meth, c, Q, A⟩ := X
  obtain ⟨hx, hb, hml, hown, hts, hK, hA, hr, hlocks, hR⟩ := hX
  intro H locs ls hP hD hS hl
  exact lv_iconst hx hb hd hv (k H locs ls hP hD hS hl)
theorem G.bipush (hX : Cx E X own cc nL rt Ts rm) {n : Int} {v : Int32} (hv : (Int8.ofInt n).toInt32 = v) (hd : decode cc pc = .ok (.bipush n, 2)) (k : G E X nL (pc + 2) lv (.int v :: st) ws) : G E X nL pc lv (st) ws := by
  obtain ⟨p, l, e, R, s, m, args, below, meth, c, Q, A⟩ := X
  obtain ⟨hx, hb, hml, hown, hts, hK, hA, hr, hlocks, hR⟩ := hX
  intro H locs ls hP hD hS hl
  exact lv_bipush hx hb hd hv (k H locs ls hP hD hS hl)
theorem G.sipush (hX : Cx E X own cc nL rt Ts rm) {n : Int} {v : Int32} (hv : (Int16.ofInt n).toInt32 = v) (hd : decode cc pc = .ok (.sipush n, 3)) (k : G E X nL (pc + 3) lv (.int v :: st) ws) : G E X nL pc lv (st) ws := by
  obtain ⟨p, l, e, R, s, m, args, below, meth, c, Q, A⟩ := X
  obtain ⟨hx, hb, hml, hown, hts, hK, hA, hr, hlocks, hR⟩ := hX
  intro H locs ls hP hD hS hl
  exact lv_sipush hx hb hd hv (k H locs ls hP hD hS hl)
theorem G.lconst (hX : Cx E X own cc nL rt Ts rm) {n : Fin 2} {v : Int64} (hv : Int64.ofNat (n : Nat) = v) (hd : decode cc pc = .ok (.lconst n, 1)) (k : G E X nL (pc + 1) lv (.long v :: st) ws) : G E X nL pc lv (st) ws := by
  obtain ⟨p, l, e, R, s, m, args, below, meth, c, Q, A⟩ := X
  obtain ⟨hx, hb, hml, hown, hts, hK, hA, hr, hlocks, hR⟩ := hX
  intro H locs ls hP hD hS hl
  exact lv_lconst hx hb hd hv (k H locs ls hP hD hS hl)
theorem G.ldc (hX : Cx E X own cc nL rt Ts rm) {index : Nat} {v : Int32} (hc : Cond.constant own index v ∈ Ts) (hd : decode cc pc = .ok (.ldc index, 2)) (k : G E X nL (pc + 2) lv (.int v :: st) ws) : G E X nL pc lv (st) ws := by
  obtain ⟨p, l, e, R, s, m, args, below, meth, c, Q, A⟩ := X
  obtain ⟨hx, hb, hml, hown, hts, hK, hA, hr, hlocks, hR⟩ := hX
  intro H locs ls hP hD hS hl
  exact lv_ldc hx hb hown (hts _ hc) hd (k H locs ls hP hD hS hl)
theorem G.ldcw (hX : Cx E X own cc nL rt Ts rm) {index : Nat} {v : Int32} (hc : Cond.constant own index v ∈ Ts) (hd : decode cc pc = .ok (.ldc_w index, 3)) (k : G E X nL (pc + 3) lv (.int v :: st) ws) : G E X nL pc lv (st) ws := by
  obtain ⟨p, l, e, R, s, m, args, below, meth, c, Q, A⟩ := X
  obtain ⟨hx, hb, hml, hown, hts, hK, hA, hr, hlocks, hR⟩ := hX
  intro H locs ls hP hD hS hl
  exact lv_ldcw hx hb hown (hts _ hc) hd (k H locs ls hP hD hS hl)
theorem G.ldc2 (hX : Cx E X own cc nL rt Ts rm) {index : Nat} {v : Int64} (hc : Cond.constantLong own index v ∈ Ts) (hd : decode cc pc = .ok (.ldc2_w index, 3)) (k : G E X nL (pc + 3) lv (.long v :: st) ws) : G E X nL pc lv (st) ws := by
  obtain ⟨p, l, e, R, s, m, args, below, meth, c, Q, A⟩ := X
  obtain ⟨hx, hb, hml, hown, hts, hK, hA, hr, hlocks, hR⟩ := hX
  intro H locs ls hP hD hS hl
  exact lv_ldc2 hx hb hown (hts _ hc) hd (k H locs ls hP hD hS hl)
theorem G.iload_n (hX : Cx E X own cc nL rt Ts rm) {kf : Fin 4} {x : Int32} (q : Nat) (hq : lv[q]? = some ((kf : Nat), .int x)) (hd : decode cc pc = .ok (.iload_n kf, 1)) (k : G E X nL (pc + 1) lv (.int x :: st) ws) : G E X nL pc lv (st) ws := by
  obtain ⟨p, l, e, R, s, m, args, below, meth, c, Q, A⟩ := X
  obtain ⟨hx, hb, hml, hown, hts, hK, hA, hr, hlocks, hR⟩ := hX
  intro H locs ls hP hD hS hl
  exact lv_iload_n hx hb hd rfl (lv_at hl q hq) (k H locs ls hP hD hS hl)
theorem G.iload (hX : Cx E X own cc nL rt Ts rm) {i : Nat} {x : Int32} (q : Nat) (hq : lv[q]? = some (i, .int x)) (hd : decode cc pc = .ok (.iload i, 2)) (k : G E X nL (pc + 2) lv (.int x :: st) ws) : G E X nL pc lv (st) ws := by
  obtain ⟨p, l, e, R, s, m, args, below, meth, c, Q, A⟩ := X
  obtain ⟨hx, hb, hml, hown, hts, hK, hA, hr, hlocks, hR⟩ := hX
  intro H locs ls hP hD hS hl
  exact lv_iload hx hb hd (lv_at hl q hq) (k H locs ls hP hD hS hl)
theorem G.lload_n (hX : Cx E X own cc nL rt Ts rm) {kf : Fin 4} {x : Int64} (q : Nat) (hq : lv[q]? = some ((kf : Nat), .long x)) (hd : decode cc pc = .ok (.lload_n kf, 1)) (k : G E X nL (pc + 1) lv (.long x :: st) ws) : G E X nL pc lv (st) ws := by
  obtain ⟨p, l, e, R, s, m, args, below, meth, c, Q, A⟩ := X
  obtain ⟨hx, hb, hml, hown, hts, hK, hA, hr, hlocks, hR⟩ := hX
  intro H locs ls hP hD hS hl
  exact lv_lload_n hx hb hd rfl (lv_at hl q hq) (k H locs ls hP hD hS hl)
theorem G.lload (hX : Cx E X own cc nL rt Ts rm) {i : Nat} {x : Int64} (q : Nat) (hq : lv[q]? = some (i, .long x)) (hd : decode cc pc = .ok (.lload i, 2)) (k : G E X nL (pc + 2) lv (.long x :: st) ws) : G E X nL pc lv (st) ws := by
  obtain ⟨p, l, e, R, s, m, args, below, meth, c, Q, A⟩ := X
  obtain ⟨hx, hb, hml, hown, hts, hK, hA, hr, hlocks, hR⟩ := hX
  intro H locs ls hP hD hS hl
  exact lv_lload hx hb hd (lv_at hl q hq) (k H locs ls hP hD hS hl)
theorem G.aload_n (hX : Cx E X own cc nL rt Ts rm) {kf : Fin 4} {x : Nat} (q : Nat) (hq : lv[q]? = some ((kf : Nat), .ref x)) (hd : decode cc pc = .ok (.aload_n kf, 1)) (k : G E X nL (pc + 1) lv (.ref x :: st) ws) : G E X nL pc lv (st) ws := by
  obtain ⟨p, l, e, R, s, m, args, below, meth, c, Q, A⟩ := X
  obtain ⟨hx, hb, hml, hown, hts, hK, hA, hr, hlocks, hR⟩ := hX
  intro H locs ls hP hD hS hl
  exact lv_aload_n hx hb hd rfl (lv_at hl q hq) (k H locs ls hP hD hS hl)
theorem G.aload (hX : Cx E X own cc nL rt Ts rm) {i : Nat} {x : Nat} (q : Nat) (hq : lv[q]? = some (i, .ref x)) (hd : decode cc pc = .ok (.aload i, 2)) (k : G E X nL (pc + 2) lv (.ref x :: st) ws) : G E X nL pc lv (st) ws := by
  obtain ⟨p, l, e, R, s, m, args, below, meth, c, Q, A⟩ := X
  obtain ⟨hx, hb, hml, hown, hts, hK, hA, hr, hlocks, hR⟩ := hX
  intro H locs ls hP hD hS hl
  exact lv_aload hx hb hd (lv_at hl q hq) (k H locs ls hP hD hS hl)
theorem G.istore_n (hX : Cx E X own cc nL rt Ts rm) {kf : Fin 4} {i : Nat} {x : Int32} (hi : (kf : Nat) = i) (hn : i < nL) (hl2 : (i, Value.int x) :: lv.filter (fun q => !(q.1 == i) && !(q.1 + 1 == i && q.2.category == 2)) = lv') (hd : decode cc pc = .ok (.istore_n kf, 1)) (k : G E X nL (pc + 1) lv' st ws) : G E X nL pc lv (Value.int x :: st) ws := by
  obtain ⟨p, l, e, R, s, m, args, below, meth, c, Q, A⟩ := X
  obtain ⟨hx, hb, hml, hown, hts, hK, hA, hr, hlocks, hR⟩ := hX
  intro H locs ls hP hD hS hl
  exact lv_istore_n hx hb hd hi hl hn hl2 (fun ls2 hl3 => k H locs ls2 hP hD hS hl3)
theorem G.istore (hX : Cx E X own cc nL rt Ts rm) {i : Nat} {x : Int32} (hn : i < nL) (hl2 : (i, Value.int x) :: lv.filter (fun q => !(q.1 == i) && !(q.1 + 1 == i && q.2.category == 2)) = lv') (hd : decode cc pc = .ok (.istore i, 2)) (k : G E X nL (pc + 2) lv' st ws) : G E X nL pc lv (Value.int x :: st) ws := by
  obtain ⟨p, l, e, R, s, m, args, below, meth, c, Q, A⟩ := X
  obtain ⟨hx, hb, hml, hown, hts, hK, hA, hr, hlocks, hR⟩ := hX
  intro H locs ls hP hD hS hl
  exact lv_istore hx hb hd hl hn hl2 (fun ls2 hl3 => k H locs ls2 hP hD hS hl3)
theorem G.lstore_n (hX : Cx E X own cc nL rt Ts rm) {kf : Fin 4} {i : Nat} {x : Int64} (hi : (kf : Nat) = i) (hn : i + 1 < nL) (hl2 : (i, Value.long x) :: lv.filter (fun q => !(q.1 == i) && (!(q.1 == i + 1) && !(q.1 + 1 == i && q.2.category == 2))) = lv') (hd : decode cc pc = .ok (.lstore_n kf, 1)) (k : G E X nL (pc + 1) lv' st ws) : G E X nL pc lv (Value.long x :: st) ws := by
  obtain ⟨p, l, e, R, s, m, args, below, meth, c, Q, A⟩ := X
  obtain ⟨hx, hb, hml, hown, hts, hK, hA, hr, hlocks, hR⟩ := hX
  intro H locs ls hP hD hS hl
  exact lv_lstore_n hx hb hd hi hl hn hl2 (fun ls2 hl3 => k H locs ls2 hP hD hS hl3)
theorem G.lstore (hX : Cx E X own cc nL rt Ts rm) {i : Nat} {x : Int64} (hn : i + 1 < nL) (hl2 : (i, Value.long x) :: lv.filter (fun q => !(q.1 == i) && (!(q.1 == i + 1) && !(q.1 + 1 == i && q.2.category == 2))) = lv') (hd : decode cc pc = .ok (.lstore i, 2)) (k : G E X nL (pc + 2) lv' st ws) : G E X nL pc lv (Value.long x :: st) ws := by
  obtain ⟨p, l, e, R, s, m, args, below, meth, c, Q, A⟩ := X
  obtain ⟨hx, hb, hml, hown, hts, hK, hA, hr, hlocks, hR⟩ := hX
  intro H locs ls hP hD hS hl
  exact lv_lstore hx hb hd hl hn hl2 (fun ls2 hl3 => k H locs ls2 hP hD hS hl3)
theorem G.astore_n (hX : Cx E X own cc nL rt Ts rm) {kf : Fin 4} {i : Nat} {x : Nat} (hi : (kf : Nat) = i) (hn : i < nL) (hl2 : (i, Value.ref x) :: lv.filter (fun q => !(q.1 == i) && !(q.1 + 1 == i && q.2.category == 2)) = lv') (hd : decode cc pc = .ok (.astore_n kf, 1)) (k : G E X nL (pc + 1) lv' st ws) : G E X nL pc lv (Value.ref x :: st) ws := by
  obtain ⟨p, l, e, R, s, m, args, below, meth, c, Q, A⟩ := X
  obtain ⟨hx, hb, hml, hown, hts, hK, hA, hr, hlocks, hR⟩ := hX
  intro H locs ls hP hD hS hl
  exact lv_astore_n hx hb hd hi hl hn hl2 (fun ls2 hl3 => k H locs ls2 hP hD hS hl3)
theorem G.astore (hX : Cx E X own cc nL rt Ts rm) {i : Nat} {x : Nat} (hn : i < nL) (hl2 : (i, Value.ref x) :: lv.filter (fun q => !(q.1 == i) && !(q.1 + 1 == i && q.2.category == 2)) = lv') (hd : decode cc pc = .ok (.astore i, 2)) (k : G E X nL (pc + 2) lv' st ws) : G E X nL pc lv (Value.ref x :: st) ws := by
  obtain ⟨p, l, e, R, s, m, args, below, meth, c, Q, A⟩ := X
  obtain ⟨hx, hb, hml, hown, hts, hK, hA, hr, hlocks, hR⟩ := hX
  intro H locs ls hP hD hS hl
  exact lv_astore hx hb hd hl hn hl2 (fun ls2 hl3 => k H locs ls2 hP hD hS hl3)
theorem G.iinc (hX : Cx E X own cc nL rt Ts rm) {i : Nat} {n : Int} {x0 x : Int32} (q : Nat) (hq : lv[q]? = some (i, .int x0)) (hv : x0 + Int32.ofInt n = x) (hn : i < nL) (hl2 : (i, Value.int x) :: lv.filter (fun q => !(q.1 == i) && !(q.1 + 1 == i && q.2.category == 2)) = lv') (hd : decode cc pc = .ok (.iinc i n, 3)) (k : G E X nL (pc + 3) lv' st ws) : G E X nL pc lv st ws := by
  obtain ⟨p, l, e, R, s, m, args, below, meth, c, Q, A⟩ := X
  obtain ⟨hx, hb, hml, hown, hts, hK, hA, hr, hlocks, hR⟩ := hX
  intro H locs ls hP hD hS hl
  exact lv_iinc hx hb hd hl hq hv hn hl2 (fun ls2 hl3 => k H locs ls2 hP hD hS hl3)
theorem G.iadd (hX : Cx E X own cc nL rt Ts rm) {x y : Int32} (hd : decode cc pc = .ok (.iadd, 1)) (k : G E X nL (pc + 1) lv (.int (x + y) :: st) ws) : G E X nL pc lv (.int y :: .int x :: st) ws := by
  obtain ⟨p, l, e, R, s, m, args, below, meth, c, Q, A⟩ := X
  obtain ⟨hx, hb, hml, hown, hts, hK, hA, hr, hlocks, hR⟩ := hX
  intro H locs ls hP hD hS hl
  exact lv_iadd hx hb hd (k H locs ls hP hD hS hl)
theorem G.isub (hX : Cx E X own cc nL rt Ts rm) {x y : Int32} (hd : decode cc pc = .ok (.isub, 1)) (k : G E X nL (pc + 1) lv (.int (x - y) :: st) ws) : G E X nL pc lv (.int y :: .int x :: st) ws := by
  obtain ⟨p, l, e, R, s, m, args, below, meth, c, Q, A⟩ := X
  obtain ⟨hx, hb, hml, hown, hts, hK, hA, hr, hlocks, hR⟩ := hX
  intro H locs ls hP hD hS hl
  exact lv_isub hx hb hd (k H locs ls hP hD hS hl)
theorem G.imul (hX : Cx E X own cc nL rt Ts rm) {x y : Int32} (hd : decode cc pc = .ok (.imul, 1)) (k : G E X nL (pc + 1) lv (.int (x * y) :: st) ws) : G E X nL pc lv (.int y :: .int x :: st) ws := by
  obtain ⟨p, l, e, R, s, m, args, below, meth, c, Q, A⟩ := X
  obtain ⟨hx, hb, hml, hown, hts, hK, hA, hr, hlocks, hR⟩ := hX
  intro H locs ls hP hD hS hl
  exact lv_imul hx hb hd (k H locs ls hP hD hS hl)
theorem G.iand (hX : Cx E X own cc nL rt Ts rm) {x y : Int32} (hd : decode cc pc = .ok (.iand, 1)) (k : G E X nL (pc + 1) lv (.int (x &&& y) :: st) ws) : G E X nL pc lv (.int y :: .int x :: st) ws := by
  obtain ⟨p, l, e, R, s, m, args, below, meth, c, Q, A⟩ := X
  obtain ⟨hx, hb, hml, hown, hts, hK, hA, hr, hlocks, hR⟩ := hX
  intro H locs ls hP hD hS hl
  exact lv_iand hx hb hd (k H locs ls hP hD hS hl)
theorem G.ior (hX : Cx E X own cc nL rt Ts rm) {x y : Int32} (hd : decode cc pc = .ok (.ior, 1)) (k : G E X nL (pc + 1) lv (.int (x ||| y) :: st) ws) : G E X nL pc lv (.int y :: .int x :: st) ws := by
  obtain ⟨p, l, e, R, s, m, args, below, meth, c, Q, A⟩ := X
  obtain ⟨hx, hb, hml, hown, hts, hK, hA, hr, hlocks, hR⟩ := hX
  intro H locs ls hP hD hS hl
  exact lv_ior hx hb hd (k H locs ls hP hD hS hl)
theorem G.ixor (hX : Cx E X own cc nL rt Ts rm) {x y : Int32} (hd : decode cc pc = .ok (.ixor, 1)) (k : G E X nL (pc + 1) lv (.int (x ^^^ y) :: st) ws) : G E X nL pc lv (.int y :: .int x :: st) ws := by
  obtain ⟨p, l, e, R, s, m, args, below, meth, c, Q, A⟩ := X
  obtain ⟨hx, hb, hml, hown, hts, hK, hA, hr, hlocks, hR⟩ := hX
  intro H locs ls hP hD hS hl
  exact lv_ixor hx hb hd (k H locs ls hP hD hS hl)
theorem G.ishl (hX : Cx E X own cc nL rt Ts rm) {x y : Int32} (hd : decode cc pc = .ok (.ishl, 1)) (k : G E X nL (pc + 1) lv (.int (x <<< (y &&& 31)) :: st) ws) : G E X nL pc lv (.int y :: .int x :: st) ws := by
  obtain ⟨p, l, e, R, s, m, args, below, meth, c, Q, A⟩ := X
  obtain ⟨hx, hb, hml, hown, hts, hK, hA, hr, hlocks, hR⟩ := hX
  intro H locs ls hP hD hS hl
  exact lv_ishl hx hb hd (k H locs ls hP hD hS hl)
theorem G.ishr (hX : Cx E X own cc nL rt Ts rm) {x y : Int32} (hd : decode cc pc = .ok (.ishr, 1)) (k : G E X nL (pc + 1) lv (.int (x >>> (y &&& 31)) :: st) ws) : G E X nL pc lv (.int y :: .int x :: st) ws := by
  obtain ⟨p, l, e, R, s, m, args, below, meth, c, Q, A⟩ := X
  obtain ⟨hx, hb, hml, hown, hts, hK, hA, hr, hlocks, hR⟩ := hX
  intro H locs ls hP hD hS hl
  exact lv_ishr hx hb hd (k H locs ls hP hD hS hl)
theorem G.iushr (hX : Cx E X own cc nL rt Ts rm) {x y : Int32} (hd : decode cc pc = .ok (.iushr, 1)) (k : G E X nL (pc + 1) lv (.int ((x.toUInt32 >>> (y.toUInt32 &&& Int32.toUInt32 31)).toInt32) :: st) ws) : G E X nL pc lv (.int y :: .int x :: st) ws := by
  obtain ⟨p, l, e, R, s, m, args, below, meth, c, Q, A⟩ := X
  obtain ⟨hx, hb, hml, hown, hts, hK, hA, hr, hlocks, hR⟩ := hX
  intro H locs ls hP hD hS hl
  exact lv_iushr hx hb hd rfl (k H locs ls hP hD hS hl)
theorem G.idiv (hX : Cx E X own cc nL rt Ts rm) {x y : Int32} (hne : ¬ y = 0) (hd : decode cc pc = .ok (.idiv, 1)) (k : G E X nL (pc + 1) lv (.int (x / y) :: st) ws) : G E X nL pc lv (.int y :: .int x :: st) ws := by
  obtain ⟨p, l, e, R, s, m, args, below, meth, c, Q, A⟩ := X
  obtain ⟨hx, hb, hml, hown, hts, hK, hA, hr, hlocks, hR⟩ := hX
  intro H locs ls hP hD hS hl
  exact lv_idiv hx hb hd hne (k H locs ls hP hD hS hl)
theorem G.irem (hX : Cx E X own cc nL rt Ts rm) {x y : Int32} (hne : ¬ y = 0) (hd : decode cc pc = .ok (.irem, 1)) (k : G E X nL (pc + 1) lv (.int (x - x / y * y) :: st) ws) : G E X nL pc lv (.int y :: .int x :: st) ws := by
  obtain ⟨p, l, e, R, s, m, args, below, meth, c, Q, A⟩ := X
  obtain ⟨hx, hb, hml, hown, hts, hK, hA, hr, hlocks, hR⟩ := hX
  intro H locs ls hP hD hS hl
  exact lv_irem hx hb hd hne (k H locs ls hP hD hS hl)
theorem G.ladd (hX : Cx E X own cc nL rt Ts rm) {x y : Int64} (hd : decode cc pc = .ok (.ladd, 1)) (k : G E X nL (pc + 1) lv (.long (x + y) :: st) ws) : G E X nL pc lv (.long y :: .long x :: st) ws := by
  obtain ⟨p, l, e, R, s, m, args, below, meth, c, Q, A⟩ := X
  obtain ⟨hx, hb, hml, hown, hts, hK, hA, hr, hlocks, hR⟩ := hX
  intro H locs ls hP hD hS hl
  exact lv_ladd hx hb hd (k H locs ls hP hD hS hl)
theorem G.lmul (hX : Cx E X own cc nL rt Ts rm) {x y : Int64} (hd : decode cc pc = .ok (.lmul, 1)) (k : G E X nL (pc + 1) lv (.long (x * y) :: st) ws) : G E X nL pc lv (.long y :: .long x :: st) ws := by
  obtain ⟨p, l, e, R, s, m, args, below, meth, c, Q, A⟩ := X
  obtain ⟨hx, hb, hml, hown, hts, hK, hA, hr, hlocks, hR⟩ := hX
  intro H locs ls hP hD hS hl
  exact lv_lmul hx hb hd (k H locs ls hP hD hS hl)
theorem G.land (hX : Cx E X own cc nL rt Ts rm) {x y : Int64} (hd : decode cc pc = .ok (.land, 1)) (k : G E X nL (pc + 1) lv (.long (x &&& y) :: st) ws) : G E X nL pc lv (.long y :: .long x :: st) ws := by
  obtain ⟨p, l, e, R, s, m, args, below, meth, c, Q, A⟩ := X
  obtain ⟨hx, hb, hml, hown, hts, hK, hA, hr, hlocks, hR⟩ := hX
  intro H locs ls hP hD hS hl
  exact lv_land hx hb hd (k H locs ls hP hD hS hl)
theorem G.lor (hX : Cx E X own cc nL rt Ts rm) {x y : Int64} (hd : decode cc pc = .ok (.lor, 1)) (k : G E X nL (pc + 1) lv (.long (x ||| y) :: st) ws) : G E X nL pc lv (.long y :: .long x :: st) ws := by
  obtain ⟨p, l, e, R, s, m, args, below, meth, c, Q, A⟩ := X
  obtain ⟨hx, hb, hml, hown, hts, hK, hA, hr, hlocks, hR⟩ := hX
  intro H locs ls hP hD hS hl
  exact lv_lor hx hb hd (k H locs ls hP hD hS hl)
theorem G.lshl (hX : Cx E X own cc nL rt Ts rm) {x : Int64} {y : Int32} (hd : decode cc pc = .ok (.lshl, 1)) (k : G E X nL (pc + 1) lv (.long (x <<< (y.toInt64 &&& 63)) :: st) ws) : G E X nL pc lv (.int y :: .long x :: st) ws := by
  obtain ⟨p, l, e, R, s, m, args, below, meth, c, Q, A⟩ := X
  obtain ⟨hx, hb, hml, hown, hts, hK, hA, hr, hlocks, hR⟩ := hX
  intro H locs ls hP hD hS hl
  exact lv_lshl hx hb hd rfl (k H locs ls hP hD hS hl)
theorem G.lcmp (hX : Cx E X own cc nL rt Ts rm) {x y : Int64} (hd : decode cc pc = .ok (.lcmp, 1)) (k : G E X nL (pc + 1) lv (.int (lg_cmp x y) :: st) ws) : G E X nL pc lv (.long y :: .long x :: st) ws := by
  obtain ⟨p, l, e, R, s, m, args, below, meth, c, Q, A⟩ := X
  obtain ⟨hx, hb, hml, hown, hts, hK, hA, hr, hlocks, hR⟩ := hX
  intro H locs ls hP hD hS hl
  exact W.lcmp hx hb hd (k H locs ls hP hD hS hl)
theorem G.i2l (hX : Cx E X own cc nL rt Ts rm) {x : Int32} (hd : decode cc pc = .ok (.i2l, 1)) (k : G E X nL (pc + 1) lv (.long x.toInt64 :: st) ws) : G E X nL pc lv (.int x :: st) ws := by
  obtain ⟨p, l, e, R, s, m, args, below, meth, c, Q, A⟩ := X
  obtain ⟨hx, hb, hml, hown, hts, hK, hA, hr, hlocks, hR⟩ := hX
  intro H locs ls hP hD hS hl
  exact lv_i2l hx hb hd rfl (k H locs ls hP hD hS hl)
theorem G.l2i (hX : Cx E X own cc nL rt Ts rm) {x : Int64} (hd : decode cc pc = .ok (.l2i, 1)) (k : G E X nL (pc + 1) lv (.int x.toInt32 :: st) ws) : G E X nL pc lv (.long x :: st) ws := by
  obtain ⟨p, l, e, R, s, m, args, below, meth, c, Q, A⟩ := X
  obtain ⟨hx, hb, hml, hown, hts, hK, hA, hr, hlocks, hR⟩ := hX
  intro H locs ls hP hD hS hl
  exact lv_l2i hx hb hd rfl (k H locs ls hP hD hS hl)
theorem G.i2b (hX : Cx E X own cc nL rt Ts rm) {x : Int32} (hd : decode cc pc = .ok (.i2b, 1)) (k : G E X nL (pc + 1) lv (.int x.toInt8.toInt32 :: st) ws) : G E X nL pc lv (.int x :: st) ws := by
  obtain ⟨p, l, e, R, s, m, args, below, meth, c, Q, A⟩ := X
  obtain ⟨hx, hb, hml, hown, hts, hK, hA, hr, hlocks, hR⟩ := hX
  intro H locs ls hP hD hS hl
  exact lv_i2b hx hb hd rfl (k H locs ls hP hD hS hl)
theorem G.i2s (hX : Cx E X own cc nL rt Ts rm) {x : Int32} (hd : decode cc pc = .ok (.i2s, 1)) (k : G E X nL (pc + 1) lv (.int x.toInt16.toInt32 :: st) ws) : G E X nL pc lv (.int x :: st) ws := by
  obtain ⟨p, l, e, R, s, m, args, below, meth, c, Q, A⟩ := X
  obtain ⟨hx, hb, hml, hown, hts, hK, hA, hr, hlocks, hR⟩ := hX
  intro H locs ls hP hD hS hl
  exact lv_i2s hx hb hd rfl (k H locs ls hP hD hS hl)
theorem G.dup (hX : Cx E X own cc nL rt Ts rm) {va : Value} (hv : va.category = 1) (hd : decode cc pc = .ok (.dup, 1)) (k : G E X nL (pc + 1) lv (va :: va :: st) ws) : G E X nL pc lv (va :: st) ws := by
  obtain ⟨p, l, e, R, s, m, args, below, meth, c, Q, A⟩ := X
  obtain ⟨hx, hb, hml, hown, hts, hK, hA, hr, hlocks, hR⟩ := hX
  intro H locs ls hP hD hS hl
  exact lv_dup hx hb hd hv (k H locs ls hP hD hS hl)
theorem G.pop (hX : Cx E X own cc nL rt Ts rm) {va : Value} (hv : va.category = 1) (hd : decode cc pc = .ok (.pop, 1)) (k : G E X nL (pc + 1) lv (st) ws) : G E X nL pc lv (va :: st) ws := by
  obtain ⟨p, l, e, R, s, m, args, below, meth, c, Q, A⟩ := X
  obtain ⟨hx, hb, hml, hown, hts, hK, hA, hr, hlocks, hR⟩ := hX
  intro H locs ls hP hD hS hl
  exact lv_pop hx hb hd hv (k H locs ls hP hD hS hl)
theorem G.dup2 (hX : Cx E X own cc nL rt Ts rm) {va vb : Value} (hv : va.category = 1) (hv2 : vb.category = 1) (hd : decode cc pc = .ok (.dup2, 1)) (k : G E X nL (pc + 1) lv (va :: vb :: va :: vb :: st) ws) : G E X nL pc lv (va :: vb :: st) ws := by
  obtain ⟨p, l, e, R, s, m, args, below, meth, c, Q, A⟩ := X
  obtain ⟨hx, hb, hml, hown, hts, hK, hA, hr, hlocks, hR⟩ := hX
  intro H locs ls hP hD hS hl
  exact lv_dup2_11 hx hb hd hv hv2 (k H locs ls hP hD hS hl)
theorem G.if_eq (hX : Cx E X own cc nL rt Ts rm) {x : Int32} {off : Int} {tgt : Nat} (ht : (pc : Int) + off = (tgt : Int)) (hd : decode cc pc = .ok (.ifCond .eq off, 3)) (kt : x = 0 → G E X nL tgt lv st ws) (kf : ¬ x = 0 → G E X nL (pc + 3) lv st ws) : G E X nL pc lv (.int x :: st) ws := by
  obtain ⟨p, l, e, R, s, m, args, below, meth, c, Q, A⟩ := X
  obtain ⟨hx, hb, hml, hown, hts, hK, hA, hr, hlocks, hR⟩ := hX
  intro H locs ls hP hD hS hl
  exact lv_if_eq hx hb hd ht (fun h => kt h H locs ls hP hD hS hl) (fun h => kf h H locs ls hP hD hS hl)
theorem G.if_ne (hX : Cx E X own cc nL rt Ts rm) {x : Int32} {off : Int} {tgt : Nat} (ht : (pc : Int) + off = (tgt : Int)) (hd : decode cc pc = .ok (.ifCond .ne off, 3)) (kt : ¬ x = 0 → G E X nL tgt lv st ws) (kf : x = 0 → G E X nL (pc + 3) lv st ws) : G E X nL pc lv (.int x :: st) ws := by
  obtain ⟨p, l, e, R, s, m, args, below, meth, c, Q, A⟩ := X
  obtain ⟨hx, hb, hml, hown, hts, hK, hA, hr, hlocks, hR⟩ := hX
  intro H locs ls hP hD hS hl
  exact lv_if_ne hx hb hd ht (fun h => kt h H locs ls hP hD hS hl) (fun h => kf h H locs ls hP hD hS hl)
theorem G.if_lt (hX : Cx E X own cc nL rt Ts rm) {x : Int32} {off : Int} {tgt : Nat} (ht : (pc : Int) + off = (tgt : Int)) (hd : decode cc pc = .ok (.ifCond .lt off, 3)) (kt : x < 0 → G E X nL tgt lv st ws) (kf : ¬ x < 0 → G E X nL (pc + 3) lv st ws) : G E X nL pc lv (.int x :: st) ws := by
  obtain ⟨p, l, e, R, s, m, args, below, meth, c, Q, A⟩ := X
  obtain ⟨hx, hb, hml, hown, hts, hK, hA, hr, hlocks, hR⟩ := hX
  intro H locs ls hP hD hS hl
  exact lv_if_lt hx hb hd ht (fun h => kt h H locs ls hP hD hS hl) (fun h => kf h H locs ls hP hD hS hl)
theorem G.if_ge (hX : Cx E X own cc nL rt Ts rm) {x : Int32} {off : Int} {tgt : Nat} (ht : (pc : Int) + off = (tgt : Int)) (hd : decode cc pc = .ok (.ifCond .ge off, 3)) (kt : 0 ≤ x → G E X nL tgt lv st ws) (kf : ¬ 0 ≤ x → G E X nL (pc + 3) lv st ws) : G E X nL pc lv (.int x :: st) ws := by
  obtain ⟨p, l, e, R, s, m, args, below, meth, c, Q, A⟩ := X
  obtain ⟨hx, hb, hml, hown, hts, hK, hA, hr, hlocks, hR⟩ := hX
  intro H locs ls hP hD hS hl
  exact lv_if_ge hx hb hd ht (fun h => kt h H locs ls hP hD hS hl) (fun h => kf h H locs ls hP hD hS hl)
theorem G.if_gt (hX : Cx E X own cc nL rt Ts rm) {x : Int32} {off : Int} {tgt : Nat} (ht : (pc : Int) + off = (tgt : Int)) (hd : decode cc pc = .ok (.ifCond .gt off, 3)) (kt : 0 < x → G E X nL tgt lv st ws) (kf : ¬ 0 < x → G E X nL (pc + 3) lv st ws) : G E X nL pc lv (.int x :: st) ws := by
  obtain ⟨p, l, e, R, s, m, args, below, meth, c, Q, A⟩ := X
  obtain ⟨hx, hb, hml, hown, hts, hK, hA, hr, hlocks, hR⟩ := hX
  intro H locs ls hP hD hS hl
  exact lv_if_gt hx hb hd ht (fun h => kt h H locs ls hP hD hS hl) (fun h => kf h H locs ls hP hD hS hl)
theorem G.if_le (hX : Cx E X own cc nL rt Ts rm) {x : Int32} {off : Int} {tgt : Nat} (ht : (pc : Int) + off = (tgt : Int)) (hd : decode cc pc = .ok (.ifCond .le off, 3)) (kt : x ≤ 0 → G E X nL tgt lv st ws) (kf : ¬ x ≤ 0 → G E X nL (pc + 3) lv st ws) : G E X nL pc lv (.int x :: st) ws := by
  obtain ⟨p, l, e, R, s, m, args, below, meth, c, Q, A⟩ := X
  obtain ⟨hx, hb, hml, hown, hts, hK, hA, hr, hlocks, hR⟩ := hX
  intro H locs ls hP hD hS hl
  exact lv_if_le hx hb hd ht (fun h => kt h H locs ls hP hD hS hl) (fun h => kf h H locs ls hP hD hS hl)
theorem G.icmp_eq (hX : Cx E X own cc nL rt Ts rm) {x y : Int32} {off : Int} {tgt : Nat} (ht : (pc : Int) + off = (tgt : Int)) (hd : decode cc pc = .ok (.if_icmp .eq off, 3)) (kt : x = y → G E X nL tgt lv st ws) (kf : ¬ x = y → G E X nL (pc + 3) lv st ws) : G E X nL pc lv (.int y :: .int x :: st) ws := by
  obtain ⟨p, l, e, R, s, m, args, below, meth, c, Q, A⟩ := X
  obtain ⟨hx, hb, hml, hown, hts, hK, hA, hr, hlocks, hR⟩ := hX
  intro H locs ls hP hD hS hl
  exact lv_icmp_eq hx hb hd ht (fun h => kt h H locs ls hP hD hS hl) (fun h => kf h H locs ls hP hD hS hl)
theorem G.icmp_ne (hX : Cx E X own cc nL rt Ts rm) {x y : Int32} {off : Int} {tgt : Nat} (ht : (pc : Int) + off = (tgt : Int)) (hd : decode cc pc = .ok (.if_icmp .ne off, 3)) (kt : ¬ x = y → G E X nL tgt lv st ws) (kf : x = y → G E X nL (pc + 3) lv st ws) : G E X nL pc lv (.int y :: .int x :: st) ws := by
  obtain ⟨p, l, e, R, s, m, args, below, meth, c, Q, A⟩ := X
  obtain ⟨hx, hb, hml, hown, hts, hK, hA, hr, hlocks, hR⟩ := hX
  intro H locs ls hP hD hS hl
  exact lv_icmp_ne hx hb hd ht (fun h => kt h H locs ls hP hD hS hl) (fun h => kf h H locs ls hP hD hS hl)
theorem G.icmp_lt (hX : Cx E X own cc nL rt Ts rm) {x y : Int32} {off : Int} {tgt : Nat} (ht : (pc : Int) + off = (tgt : Int)) (hd : decode cc pc = .ok (.if_icmp .lt off, 3)) (kt : x < y → G E X nL tgt lv st ws) (kf : ¬ x < y → G E X nL (pc + 3) lv st ws) : G E X nL pc lv (.int y :: .int x :: st) ws := by
  obtain ⟨p, l, e, R, s, m, args, below, meth, c, Q, A⟩ := X
  obtain ⟨hx, hb, hml, hown, hts, hK, hA, hr, hlocks, hR⟩ := hX
  intro H locs ls hP hD hS hl
  exact lv_icmp_lt hx hb hd ht (fun h => kt h H locs ls hP hD hS hl) (fun h => kf h H locs ls hP hD hS hl)
theorem G.icmp_ge (hX : Cx E X own cc nL rt Ts rm) {x y : Int32} {off : Int} {tgt : Nat} (ht : (pc : Int) + off = (tgt : Int)) (hd : decode cc pc = .ok (.if_icmp .ge off, 3)) (kt : y ≤ x → G E X nL tgt lv st ws) (kf : ¬ y ≤ x → G E X nL (pc + 3) lv st ws) : G E X nL pc lv (.int y :: .int x :: st) ws := by
  obtain ⟨p, l, e, R, s, m, args, below, meth, c, Q, A⟩ := X
  obtain ⟨hx, hb, hml, hown, hts, hK, hA, hr, hlocks, hR⟩ := hX
  intro H locs ls hP hD hS hl
  exact lv_icmp_ge hx hb hd ht (fun h => kt h H locs ls hP hD hS hl) (fun h => kf h H locs ls hP hD hS hl)
theorem G.icmp_gt (hX : Cx E X own cc nL rt Ts rm) {x y : Int32} {off : Int} {tgt : Nat} (ht : (pc : Int) + off = (tgt : Int)) (hd : decode cc pc = .ok (.if_icmp .gt off, 3)) (kt : y < x → G E X nL tgt lv st ws) (kf : ¬ y < x → G E X nL (pc + 3) lv st ws) : G E X nL pc lv (.int y :: .int x :: st) ws := by
  obtain ⟨p, l, e, R, s, m, args, below, meth, c, Q, A⟩ := X
  obtain ⟨hx, hb, hml, hown, hts, hK, hA, hr, hlocks, hR⟩ := hX
  intro H locs ls hP hD hS hl
  exact lv_icmp_gt hx hb hd ht (fun h => kt h H locs ls hP hD hS hl) (fun h => kf h H locs ls hP hD hS hl)
theorem G.icmp_le (hX : Cx E X own cc nL rt Ts rm) {x y : Int32} {off : Int} {tgt : Nat} (ht : (pc : Int) + off = (tgt : Int)) (hd : decode cc pc = .ok (.if_icmp .le off, 3)) (kt : x ≤ y → G E X nL tgt lv st ws) (kf : ¬ x ≤ y → G E X nL (pc + 3) lv st ws) : G E X nL pc lv (.int y :: .int x :: st) ws := by
  obtain ⟨p, l, e, R, s, m, args, below, meth, c, Q, A⟩ := X
  obtain ⟨hx, hb, hml, hown, hts, hK, hA, hr, hlocks, hR⟩ := hX
  intro H locs ls hP hD hS hl
  exact lv_icmp_le hx hb hd ht (fun h => kt h H locs ls hP hD hS hl) (fun h => kf h H locs ls hP hD hS hl)
theorem G.goto (hX : Cx E X own cc nL rt Ts rm) {off : Int} {tgt : Nat} (ht : (pc : Int) + off = (tgt : Int)) (hd : decode cc pc = .ok (.goto off, 3)) (k : G E X nL tgt lv st ws) : G E X nL pc lv (st) ws := by
  obtain ⟨p, l, e, R, s, m, args, below, meth, c, Q, A⟩ := X
  obtain ⟨hx, hb, hml, hown, hts, hK, hA, hr, hlocks, hR⟩ := hX
  intro H locs ls hP hD hS hl
  exact lv_goto hx hb hd ht (k H locs ls hP hD hS hl)
theorem G.tin (hX : Cx E X own cc nL rt Ts rm) {dflt lo hi : Int} {offs : Array Int} {len : Nat} {x : Int32} {off : Int} {tgt : Nat} (hd : decode cc pc = .ok (.tableswitch dflt lo hi offs, len)) (h1 : ¬ x.toInt < lo) (h2 : ¬ hi < x.toInt) (ho : offs[(x.toInt - lo).toNat]? = some off) (ht : (pc : Int) + off = (tgt : Int)) (k : G E X nL tgt lv st ws) : G E X nL pc lv (.int x :: st) ws := by
  obtain ⟨p, l, e, R, s, m, args, below, meth, c, Q, A⟩ := X
  obtain ⟨hx, hb, hml, hown, hts, hK, hA, hr, hlocks, hR⟩ := hX
  intro H locs ls hP hD hS hl
  exact lv_tableIn hx hb hd h1 h2 ho ht (k H locs ls hP hD hS hl)
theorem G.tout (hX : Cx E X own cc nL rt Ts rm) {dflt lo hi : Int} {offs : Array Int} {len : Nat} {x : Int32} {tgt : Nat} (hd : decode cc pc = .ok (.tableswitch dflt lo hi offs, len)) (h : x.toInt < lo ∨ hi < x.toInt) (ht : (pc : Int) + dflt = (tgt : Int)) (k : G E X nL tgt lv st ws) : G E X nL pc lv (.int x :: st) ws := by
  obtain ⟨p, l, e, R, s, m, args, below, meth, c, Q, A⟩ := X
  obtain ⟨hx, hb, hml, hown, hts, hK, hA, hr, hlocks, hR⟩ := hX
  intro H locs ls hP hD hS hl
  exact lv_tableOut hx hb hd h ht (k H locs ls hP hD hS hl)
theorem G.get (hX : Cx E X own cc nL rt Ts rm) {C : String} {T : u_T} {N ci index a : Nat} {fs : List Value} {v : Value} (hin : ∀ w ∈ u_ws C T N, w ∈ Ts) (q0 : Nat) (he : ws[q0]? = some (a, .inr (ci, fs))) (hc : vwCl[ci]? = some (C, T, N)) (k0 : Nat) (hk : k0 < N) (hlink : Cond.fieldLink own index (T k0).1 (T k0).2.1 (T k0).2.2.1 ∈ Ts) (hv : fs[k0]? = some v) (hd : decode cc pc = .ok (.getfield index, 3)) (k : G E X nL (pc + 3) lv (v :: st) ws) : G E X nL pc lv (.ref a :: st) ws := by
  obtain ⟨p, l, e, R, s, m, args, below, meth, c, Q, A⟩ := X
  obtain ⟨hx, hb, hml, hown, hts, hK, hA, hr, hlocks, hR⟩ := hX
  intro H locs ls hP hD hS hl
  exact va_get hx hb hts hin hown hK.1 hP q0 he hc k0 hk (hts _ hlink) (fun _ h => h) hv hd (k H locs ls hP hD hS hl)
theorem G.put (hX : Cx E X own cc nL rt Ts rm) {C : String} {T : u_T} {N ci index a : Nat} {fs fs' : List Value} {v : Value} {ty : FieldType} (hin : ∀ w ∈ u_ws C T N, w ∈ Ts) (ty0 : Nat → FieldType) (hty : ∀ k, k < N → parseFieldDescriptor (T k).2.2.1 = some (ty0 k)) (hnm : ∀ a, a < N → ∀ b, b < N → a ≠ b → (T a).2.1 ≠ (T b).2.1) (q0 : Nat) (he : ws[q0]? = some (a, .inr (ci, fs))) (hc : vwCl[ci]? = some (C, T, N)) (k0 : Nat) (hk : k0 < N) (hlink : Cond.fieldLink own index (T k0).1 (T k0).2.1 (T k0).2.2.1 ∈ Ts) (hfin : (T k0).2.2.2 = false) (hpd : parseFieldDescriptor (T k0).2.2.1 = some ty) (hn : narrow ty v = v) (hfit : fits ty v = true) (hl0 : k0 < fs.length) (hf : fs.set k0 v = fs') (hw : ws.set q0 (a, .inr (ci, fs')) = ws') (hd : decode cc pc = .ok (.putfield index, 3)) (k : G E X nL (pc + 3) lv st ws') : G E X nL pc lv (v :: .ref a :: st) ws := by
  obtain ⟨p, l, e, R, s, m, args, below, meth, c, Q, A⟩ := X
  obtain ⟨hx, hb, hml, hown, hts, hK, hA, hr, hlocks, hR⟩ := hX
  intro H locs ls hP hD hS hl
  subst hf
  subst hw
  exact va_put hx hb hts hin ty0 hty hnm hown hK.1 hP hD hS q0 he hc k0 hk (hts _ hlink) (fun _ h => h) hfin hpd hn hfit hl0 hd (fun H1 locs1 hP1 hD1 hS1 => k H1 locs1 ls hP1 hD1 hS1 hl)
theorem G.iald (hX : Cx E X own cc nL rt Ts rm) {a n j : Nat} {f : Nat → Int32} (q0 : Nat) (ha : ws[q0]? = some (a, .inl (E.2.1 0, n, .inl f))) (hj : j < n) (hn : n < 2 ^ 31) (hd : decode cc pc = .ok (.iaload, 1)) (k : G E X nL (pc + 1) lv (.int (f j) :: st) ws) : G E X nL pc lv (.int (nI j) :: .ref a :: st) ws := by
  obtain ⟨p, l, e, R, s, m, args, below, meth, c, Q, A⟩ := X
  obtain ⟨hx, hb, hml, hown, hts, hK, hA, hr, hlocks, hR⟩ := hX
  intro H locs ls hP hD hS hl
  refine va_iald hx hb hK.1 hP q0 0 ha rfl (vp_in_nI hj hn) hd ?_
  rw [nI_clamp (by omega)]
  exact k H locs ls hP hD hS hl
theorem G.lald (hX : Cx E X own cc nL rt Ts rm) {a n j : Nat} {f : Nat → Int64} (q0 : Nat) (ha : ws[q0]? = some (a, .inl (E.2.1 1, n, .inr (.inl f)))) (hj : j < n) (hn : n < 2 ^ 31) (hd : decode cc pc = .ok (.laload, 1)) (k : G E X nL (pc + 1) lv (.long (f j) :: st) ws) : G E X nL pc lv (.int (nI j) :: .ref a :: st) ws := by
  obtain ⟨p, l, e, R, s, m, args, below, meth, c, Q, A⟩ := X
  obtain ⟨hx, hb, hml, hown, hts, hK, hA, hr, hlocks, hR⟩ := hX
  intro H locs ls hP hD hS hl
  refine va_lald hx hb hK.1 hP q0 1 ha rfl (vp_in_nI hj hn) hd ?_
  rw [nI_clamp (by omega)]
  exact k H locs ls hP hD hS hl
theorem G.bald (hX : Cx E X own cc nL rt Ts rm) {a n j : Nat} {f : Nat → Int32} (q0 : Nat) (ha : ws[q0]? = some (a, .inl (E.2.1 2, n, .inl f))) (hj : j < n) (hn : n < 2 ^ 31) (hd : decode cc pc = .ok (.baload, 1)) (k : G E X nL (pc + 1) lv (.int (f j) :: st) ws) : G E X nL pc lv (.int (nI j) :: .ref a :: st) ws := by
  obtain ⟨p, l, e, R, s, m, args, below, meth, c, Q, A⟩ := X
  obtain ⟨hx, hb, hml, hown, hts, hK, hA, hr, hlocks, hR⟩ := hX
  intro H locs ls hP hD hS hl
  refine va_bald hx hb hK.1 hP q0 2 ha rfl (vp_in_nI hj hn) hd ?_
  rw [nI_clamp (by omega)]
  exact k H locs ls hP hD hS hl
theorem G.iast (hX : Cx E X own cc nL rt Ts rm) {a n j : Nat} {f f' : Nat → Int32} {x : Int32} (q0 : Nat) (ha : ws[q0]? = some (a, .inl (E.2.1 0, n, .inl f))) (hj : j < n) (hn : n < 2 ^ 31) (hf : upd f j x = f') (hw : ws.set q0 (a, .inl (E.2.1 0, n, .inl f')) = ws') (hd : decode cc pc = .ok (.iastore, 1)) (k : G E X nL (pc + 1) lv st ws') : G E X nL pc lv (.int x :: .int (nI j) :: .ref a :: st) ws := by
  obtain ⟨p, l, e, R, s, m, args, below, meth, c, Q, A⟩ := X
  obtain ⟨hx, hb, hml, hown, hts, hK, hA, hr, hlocks, hR⟩ := hX
  intro H locs ls hP hD hS hl
  subst hf
  subst hw
  have e : (nI j).toNatClampNeg = j := nI_clamp (by omega)
  refine va_iast hx hb hK.1 hP hD hS q0 0 ha rfl (vp_in_nI hj hn) hd (fun H1 locs1 hP1 hD1 hS1 => ?_)
  rw [e] at hP1 hD1
  exact k H1 locs1 ls hP1 hD1 hS1 hl
theorem G.last (hX : Cx E X own cc nL rt Ts rm) {a n j : Nat} {f f' : Nat → Int64} {x : Int64} (q0 : Nat) (ha : ws[q0]? = some (a, .inl (E.2.1 1, n, .inr (.inl f)))) (hj : j < n) (hn : n < 2 ^ 31) (hf : vp_updL f j x = f') (hw : ws.set q0 (a, .inl (E.2.1 1, n, .inr (.inl f'))) = ws') (hd : decode cc pc = .ok (.lastore, 1)) (k : G E X nL (pc + 1) lv st ws') : G E X nL pc lv (.long x :: .int (nI j) :: .ref a :: st) ws := by
  obtain ⟨p, l, e, R, s, m, args, below, meth, c, Q, A⟩ := X
  obtain ⟨hx, hb, hml, hown, hts, hK, hA, hr, hlocks, hR⟩ := hX
  intro H locs ls hP hD hS hl
  subst hf
  subst hw
  have e : (nI j).toNatClampNeg = j := nI_clamp (by omega)
  refine va_last hx hb hK.1 hP hD hS q0 1 ha rfl (vp_in_nI hj hn) hd (fun H1 locs1 hP1 hD1 hS1 => ?_)
  rw [e] at hP1 hD1
  exact k H1 locs1 ls hP1 hD1 hS1 hl
theorem G.bast (hX : Cx E X own cc nL rt Ts rm) {a n j : Nat} {f f' : Nat → Int32} {x : Int32} (q0 : Nat) (ha : ws[q0]? = some (a, .inl (E.2.1 2, n, .inl f))) (hj : j < n) (hn : n < 2 ^ 31) (hf : upd f j (vp_nar .byte x) = f') (hw : ws.set q0 (a, .inl (E.2.1 2, n, .inl f')) = ws') (hd : decode cc pc = .ok (.bastore, 1)) (k : G E X nL (pc + 1) lv st ws') : G E X nL pc lv (.int x :: .int (nI j) :: .ref a :: st) ws := by
  obtain ⟨p, l, e, R, s, m, args, below, meth, c, Q, A⟩ := X
  obtain ⟨hx, hb, hml, hown, hts, hK, hA, hr, hlocks, hR⟩ := hX
  intro H locs ls hP hD hS hl
  subst hf
  subst hw
  have e : (nI j).toNatClampNeg = j := nI_clamp (by omega)
  refine va_bast hx hb hK.1 hP hD hS q0 2 ha rfl (vp_in_nI hj hn) hd (fun H1 locs1 hP1 hD1 hS1 => ?_)
  rw [e] at hP1 hD1
  exact k H1 locs1 ls hP1 hD1 hS1 hl
theorem G.alen (hX : Cx E X own cc nL rt Ts rm) {a : Nat} {cA : ClassId} {x : vp_A} {ty : FieldType} {v : Int32} (q0 t0 : Nat) (ha : ws[q0]? = some (a, .inl (cA, x))) (ht : (gtys E)[t0]? = some (cA, ty)) (hv : Int32.ofNat x.1 = v) (hd : decode cc pc = .ok (.arraylength, 1)) (k : G E X nL (pc + 1) lv (.int v :: st) ws) : G E X nL pc lv (.ref a :: st) ws := by
  obtain ⟨p, l, e, R, s, m, args, below, meth, c, Q, A⟩ := X
  obtain ⟨hx, hb, hml, hown, hts, hK, hA, hr, hlocks, hR⟩ := hX
  intro H locs ls hP hD hS hl
  exact va_alen hx hb hK.1 hP q0 t0 ha ht hv hd (k H locs ls hP hD hS hl)
theorem G.aald (hX : Cx E X own cc nL rt Ts rm) {a n j : Nat} {f : Nat → Option Nat} {v : Value} (q0 : Nat) (ha : ws[q0]? = some (a, .inl (E.2.1 3, n, .inr (.inr (.inr (.inr f)))))) (hj : j < n) (hn : n < 2 ^ 31) (hv : va_rf (f j) = v) (hd : decode cc pc = .ok (.aaload, 1)) (k : G E X nL (pc + 1) lv (v :: st) ws) : G E X nL pc lv (.int (nI j) :: .ref a :: st) ws := by
  obtain ⟨p, l, e, R, s, m, args, below, meth, c, Q, A⟩ := X
  obtain ⟨hx, hb, hml, hown, hts, hK, hA, hr, hlocks, hR⟩ := hX
  intro H locs ls hP hD hS hl
  subst hv
  refine va_aldq hx hb hK.1 hP q0 3 ha rfl (vp_in_nI hj hn) hd ?_
  rw [nI_clamp (by omega)]
  exact k H locs ls hP hD hS hl
theorem G.mmax (hX : Cx E X own cc nL rt Ts rm) {index : Nat} {x y : Int32} (h1 : Cond.methodLink own index Lib.Math.max.name ∈ Ts) (h2 : Cond.static Lib.Math.max.name ∈ Ts) (h3 : Cond.initialized "java/lang/Math" ∈ Ts) (h4 : Cond.code Lib.Math.max.name Lib.Math.max.code 2 (some .int) ∈ Ts) (hfr : 1 ≤ rm.frames) (hlo : (st.map fun v => v.category).sum + 13 ≤ rm.locals) (hd : decode cc pc = .ok (.invokestatic index, 3)) (k : G E X nL (pc + 3) lv (.int (if x < y then y else x) :: st) ws) : G E X nL pc lv (.int y :: .int x :: st) ws := by
  obtain ⟨p, l, e, R, s, m, args, below, meth, c, Q, A⟩ := X
  obtain ⟨hx, hb, hml, hown, hts, hK, hA, hr, hlocks, hR⟩ := hX
  intro H locs ls hP hD hS hl
  dsimp only at hR
  subst hR
  exact va_mmax hx hb (by rw [hml]; exact hl.1.symm) hown (hts _ h1) (hts _ h2) (hts _ h3) (hts _ h4) hfr hlo (Nat.zero_le _) (Nat.zero_le _) hd (k H locs ls hP hD hS hl)
theorem G.mmin (hX : Cx E X own cc nL rt Ts rm) {index : Nat} {x y : Int32} (h1 : Cond.methodLink own index Lib.Math.min.name ∈ Ts) (h2 : Cond.static Lib.Math.min.name ∈ Ts) (h3 : Cond.initialized "java/lang/Math" ∈ Ts) (h4 : Cond.code Lib.Math.min.name Lib.Math.min.code 2 (some .int) ∈ Ts) (hfr : 1 ≤ rm.frames) (hlo : (st.map fun v => v.category).sum + 13 ≤ rm.locals) (hd : decode cc pc = .ok (.invokestatic index, 3)) (k : G E X nL (pc + 3) lv (.int (if y < x then y else x) :: st) ws) : G E X nL pc lv (.int y :: .int x :: st) ws := by
  obtain ⟨p, l, e, R, s, m, args, below, meth, c, Q, A⟩ := X
  obtain ⟨hx, hb, hml, hown, hts, hK, hA, hr, hlocks, hR⟩ := hX
  intro H locs ls hP hD hS hl
  dsimp only at hR
  subst hR
  exact va_mmin hx hb (by rw [hml]; exact hl.1.symm) hown (hts _ h1) (hts _ h2) (hts _ h3) (hts _ h4) hfr hlo (Nat.zero_le _) (Nat.zero_le _) hd (k H locs ls hP hD hS hl)
theorem G.copyi (hX : Cx E X own cc nL rt Ts rm) {index a0 a1 n0 n1 sp dp n : Nat} {f g g' : Nat → Int32} (h1 : Cond.methodLink own index arraycopyName ∈ Ts) (h2 : Cond.native arraycopyName ∈ Ts) (h3 : Cond.static arraycopyName ∈ Ts) (h4 : Cond.initialized "java/lang/System" ∈ Ts) (q0 q1 : Nat) (ha0 : ws[q0]? = some (a0, .inl (E.2.1 0, n0, .inl f))) (ha1 : ws[q1]? = some (a1, .inl (E.2.1 0, n1, .inl g))) (hs : sp + n ≤ n0) (hdp : dp + n ≤ n1) (hn0 : n0 < 2 ^ 31) (hn1 : n1 < 2 ^ 31) (hfr : 1 ≤ rm.frames) (hlo : (st.map fun v => v.category).sum + (nativeFrameWords "java/lang/System" "arraycopy" 5 + 11) ≤ rm.locals) (hg : va_cpy f g sp dp n = g') (hw : ws.set q1 (a1, .inl (E.2.1 0, n1, .inl g')) = ws') (hd : decode cc pc = .ok (.invokestatic index, 3)) (k : G E X nL (pc + 3) lv st ws') : G E X nL pc lv (.int (nI n) :: .int (nI dp) :: .ref a1 :: .int (nI sp) :: .ref a0 :: st) ws := by
  obtain ⟨p, l, e, R, s, m, args, below, meth, c, Q, A⟩ := X
  obtain ⟨hx, hb, hml, hown, hts, hK, hA, hr, hlocks, hR⟩ := hX
  intro H locs ls hP hD hS hl
  dsimp only at hR
  subst hR
  subst hg
  subst hw
  have e1 : (nI n).toNatClampNeg = n := nI_clamp (by omega)
  have e2 : (nI sp).toNatClampNeg = sp := nI_clamp (by omega)
  have e3 : (nI dp).toNatClampNeg = dp := nI_clamp (by omega)
  refine va_copyi (ty := .int) hx hb (by rw [hml]; exact hl.1.symm) hown (hts _ h1) (hts _ h2) (hts _ h3) (hts _ h4) hK.1 hP hD hS q0 q1 0 0 ha0 ha1 rfl rfl rfl (nI_pos (by omega)) (nI_pos (by omega)) (nI_pos (by omega)) (by rw [e1, e2]; exact hs) (by rw [e1, e3]; exact hdp) (fun _ _ => rfl) hfr hlo hd (fun H1 locs1 hP1 hD1 hS1 => ?_)
  rw [e1, e2, e3] at hP1 hD1
  exact k H1 locs1 ls hP1 hD1 hS1 hl
theorem G.copyl (hX : Cx E X own cc nL rt Ts rm) {index a0 a1 n0 n1 sp dp n : Nat} {f g g' : Nat → Int64} (h1 : Cond.methodLink own index arraycopyName ∈ Ts) (h2 : Cond.native arraycopyName ∈ Ts) (h3 : Cond.static arraycopyName ∈ Ts) (h4 : Cond.initialized "java/lang/System" ∈ Ts) (q0 q1 : Nat) (ha0 : ws[q0]? = some (a0, .inl (E.2.1 1, n0, .inr (.inl f)))) (ha1 : ws[q1]? = some (a1, .inl (E.2.1 1, n1, .inr (.inl g)))) (hs : sp + n ≤ n0) (hdp : dp + n ≤ n1) (hn0 : n0 < 2 ^ 31) (hn1 : n1 < 2 ^ 31) (hfr : 1 ≤ rm.frames) (hlo : (st.map fun v => v.category).sum + (nativeFrameWords "java/lang/System" "arraycopy" 5 + 11) ≤ rm.locals) (hg : va_cpy f g sp dp n = g') (hw : ws.set q1 (a1, .inl (E.2.1 1, n1, .inr (.inl g'))) = ws') (hd : decode cc pc = .ok (.invokestatic index, 3)) (k : G E X nL (pc + 3) lv st ws') : G E X nL pc lv (.int (nI n) :: .int (nI dp) :: .ref a1 :: .int (nI sp) :: .ref a0 :: st) ws := by
  obtain ⟨p, l, e, R, s, m, args, below, meth, c, Q, A⟩ := X
  obtain ⟨hx, hb, hml, hown, hts, hK, hA, hr, hlocks, hR⟩ := hX
  intro H locs ls hP hD hS hl
  dsimp only at hR
  subst hR
  subst hg
  subst hw
  have e1 : (nI n).toNatClampNeg = n := nI_clamp (by omega)
  have e2 : (nI sp).toNatClampNeg = sp := nI_clamp (by omega)
  have e3 : (nI dp).toNatClampNeg = dp := nI_clamp (by omega)
  refine va_copyl (ty := .long) hx hb (by rw [hml]; exact hl.1.symm) hown (hts _ h1) (hts _ h2) (hts _ h3) (hts _ h4) hK.1 hP hD hS q0 q1 1 1 ha0 ha1 rfl rfl rfl (nI_pos (by omega)) (nI_pos (by omega)) (nI_pos (by omega)) (by rw [e1, e2]; exact hs) (by rw [e1, e3]; exact hdp) (fun _ _ => rfl) hfr hlo hd (fun H1 locs1 hP1 hD1 hS1 => ?_)
  rw [e1, e2, e3] at hP1 hD1
  exact k H1 locs1 ls hP1 hD1 hS1 hl
theorem G.iret (hX : Cx E X own cc nL (some .int) Ts rm) {v r : Int32} (hQ : QI E X ws' r) (hd : decode cc pc = .ok (.ireturn, 1)) (hv : v = r) (hw : ws = ws') : G E X nL pc lv [.int v] ws := by
  obtain ⟨p, l, e, R, s, m, args, below, meth, c, Q, A⟩ := X
  obtain ⟨hx, hb, hml, hown, hts, hK, hA, hr, hlocks, hR⟩ := hX
  intro H locs ls hP hD hS hl
  subst hw
  subst hv
  unfold QI at hQ
  dsimp only at hQ
  subst hQ
  exact W.iret hx hb hr (fun t ht hW => ⟨⟨v, (), rfl, rfl, by rw [ht]; exact hP, hD⟩, hS.F ht⟩) hS.2.2 hd hlocks
theorem G.lret (hX : Cx E X own cc nL (some .long) Ts rm) {v r : Int64} (hQ : QL E X ws' r) (hd : decode cc pc = .ok (.lreturn, 1)) (hv : v = r) (hw : ws = ws') : G E X nL pc lv [.long v] ws := by
  obtain ⟨p, l, e, R, s, m, args, below, meth, c, Q, A⟩ := X
  obtain ⟨hx, hb, hml, hown, hts, hK, hA, hr, hlocks, hR⟩ := hX
  intro H locs ls hP hD hS hl
  subst hw
  subst hv
  unfold QL at hQ
  dsimp only at hQ
  subst hQ
  exact W.lret hx hb hr (fun t ht hW => ⟨⟨v, (), rfl, rfl, by rw [ht]; exact hP, hD⟩, hS.F ht⟩) hS.2.2 hd hlocks
theorem G.zret {ty : FieldType} (hX : Cx E X own cc nL (some ty) Ts rm) {v r : Int32} (hQ : QI E X ws' r) (hn : narrow ty (.int v) = .int v) (hd : decode cc pc = .ok (.ireturn, 1)) (hv : v = r) (hw : ws = ws') : G E X nL pc lv [.int v] ws := by
  obtain ⟨p, l, e, R, s, m, args, below, meth, c, Q, A⟩ := X
  obtain ⟨hx, hb, hml, hown, hts, hK, hA, hr, hlocks, hR⟩ := hX
  intro H locs ls hP hD hS hl
  subst hw
  subst hv
  unfold QI at hQ
  dsimp only at hQ
  subst hQ
  exact W.zret hx hb hr hn (fun t ht hW => ⟨⟨v, (), rfl, rfl, by rw [ht]; exact hP, hD⟩, hS.F ht⟩) hS.2.2 hd hlocks
theorem G.vret (hX : Cx E X own cc nL none Ts rm) (hQ : QV E X ws') (hd : decode cc pc = .ok (.return_, 1)) (hw : ws = ws') : G E X nL pc lv [] ws := by
  obtain ⟨p, l, e, R, s, m, args, below, meth, c, Q, A⟩ := X
  obtain ⟨hx, hb, hml, hown, hts, hK, hA, hr, hlocks, hR⟩ := hX
  intro H locs ls hP hD hS hl
  subst hw
  unfold QV at hQ
  dsimp only at hQ
  subst hQ
  exact W.vret hx hb hr (fun t ht hW => ⟨⟨(), rfl, trivial, by rw [ht]; exact hP, hD⟩, hS.F ht⟩) hS.2.2 hd hlocks
theorem G.aret {cn : String} (hX : Cx E X own cc nL (some (.object cn)) Ts rm) {v r : Nat} (hQ : QR E X ws' r) (hd : decode cc pc = .ok (.areturn, 1)) (hv : v = r) (hw : ws = ws') : G E X nL pc lv [.ref v] ws := by
  obtain ⟨p, l, e, R, s, m, args, below, meth, c, Q, A⟩ := X
  obtain ⟨hx, hb, hml, hown, hts, hK, hA, hr, hlocks, hR⟩ := hX
  intro H locs ls hP hD hS hl
  subst hw
  subst hv
  unfold QR at hQ
  dsimp only at hQ
  subst hQ
  exact W.aret hx hb hr (Or.inl ⟨_, rfl⟩) (Or.inr ⟨_, rfl⟩) (fun t ht hW => ⟨⟨(), v, rfl, trivial, rfl, by rw [ht]; exact hP, hD⟩, hS.F ht⟩) hS.2.2 hd hlocks
theorem G.ldcS (hX : Cx E X RX2 cc nL rt Ts rm) {index q : Nat} (i : Nat) (hi : i < 11) (hq : jsP.getD i 0 = index) (ha : adK E i = q) (hd : decode cc pc = .ok (.ldc index, 2)) (k : G E X nL (pc + 2) lv (.ref q :: st) ws) : G E X nL pc lv st ws := by
  obtain ⟨p, l, e, R, s, m, args, below, meth, c, Q, A⟩ := X
  obtain ⟨hx, hb, hml, hown, hts, hK, hA, hr, hlocks, hR⟩ := hX
  intro H locs ls hP hD hS hl
  subst hq
  subst ha
  exact va_ldcS hx hb hown (hK.2.2.2.2.1 i hi) hd (k H locs ls hP hD hS hl)
/-- what a call needs of a callee: its words begin with its code, it makes nothing, its name and descriptor -/
def CP (y : MethodName) (C : String) (wy : List Cond) (maxL n : Nat) (ry : Room) : Prop := (∃ (bytes : ByteArray) (ret : Option FieldType) (wy' : List Cond), wy = Cond.code y bytes maxL ret :: wy') ∧ ry.cells = 0 ∧ ry.slots = 0 ∧ (y.cls = C ∧ y.cls ≠ "java/lang/invoke/MethodHandle" ∧ y.cls ≠ "java/lang/invoke/VarHandle" ∧ (parseMethodDescriptor y.desc).map (fun d => d.parameters.length) = some n)
theorem g_fm {α β : Type} {f : α → Option β} : ∀ {is : List α} {ws : List β}, is.map f = ws.map some → is.filterMap f = ws
  | [], [], _ => rfl
  | [], _ :: _, h => by cases h
  | _ :: _, [], h => by cases h
  | i :: is, w :: ws, h => by
    rw [List.map_cons, List.map_cons] at h
    have h1 := (List.cons.inj h).1
    have h2 := (List.cons.inj h).2
    rw [List.filterMap_cons, h1, g_fm h2]
/-- the world cut for a call: the callee's places isC, the rest isR, and how it is laid together again -/
def Cut (ws wc wr w1 wf : va_W) (isC isR pm : List Nat) : Prop := isC.map (fun i => ws[i]?) = wc.map some ∧ isR.map (fun i => ws[i]?) = wr.map some ∧ (va_nd isC = true ∧ va_nd isR = true ∧ va_nd pm = true ∧ ∀ i ∈ isR, i ∉ isC) ∧ pm.map (fun i => (wr ++ w1)[i]?) = wf.map some
theorem G.vi (hX : Cx E X own cc nL rt Ts rm) {index maxL n : Nat} {C : String} {y : MethodName} {wy : List Cond} {ry : Room} {As : List Value} {wc wr w1 wf : va_W} {r : Int32} {st0 : List Value} {b ci q0 : Nat} {T : u_T} {N : Nat} {fs : List Value} (hcl : vwCl[ci]? = some (C, T, N)) (he : wc[q0]? = some (b, .inr (ci, fs))) (hM : CI X.2.1 y wy ry E (.ref b :: As) wc w1 r) (hG : GoodIn Ts (wsV own index C y wy)) (hcp : CP y C wy maxL n ry) (hRR : ry.frames + 1 ≤ rm.frames ∧ 8 + (maxL + 11) + ry.locals ≤ rm.locals) (isC isR pm : List Nat) (hcut : Cut ws wc wr w1 wf isC isR pm) (hst : st0 = As.reverse ++ .ref b :: st) (hn : As.length = n) (hrs0 : (st.map fun v => v.category).sum ≤ 8) (hd : decode cc pc = .ok (.invokevirtual index, 3)) (k : G E X nL (pc + 3) lv (.int r :: st) wf) : G E X nL pc lv st0 ws := by
  obtain ⟨p, l, e, R, s, m, args, below, meth, c, Q, A⟩ := X
  have hX0 := hX
  obtain ⟨hx, hb, hml, hown, hts, hK, hA, hr, hlocks, hR⟩ := hX
  dsimp only at hx hb hml hown hts hK hA hR
  obtain ⟨⟨bytes, ret, wy', hwy⟩, hrc, hrs, hdd⟩ := hcp
  obtain ⟨hC, hRe, ⟨hn1, hn2, hn3, hdis⟩, hpf⟩ := hcut
  intro H locs ls hP hD hS hl
  dsimp only at hD hS ⊢
  have hR1 : ry.frames + 1 ≤ R.frames := by rw [hR]; exact hRR.1
  have hR2 : 8 + (maxL + 11) + ry.locals ≤ R.locals := by rw [hR]; exact hRR.2
  have hPc : va_P E.1 vwCl wc H := hP.sub isC (g_fm hC)
  have hDc := hD.sub isC hn1 hC
  have hFc := va_free hD hS hA isC hC
  refine va_calli (A1 := va_A wc H.size) (mc := 0) (ms := 0) (rest := st) (va_runV (As := As) (rest := st) ⟨hx, hb, hml, hown, hts⟩ (hM H.size) (cwV n hts hG hwy hrc hrs hdd ⟨hR1, hR2⟩) ⟨fun a U g mk q => by obtain ⟨q0, q1, qP, qK, qD⟩ := q; exact ⟨q0, q1, qP, qK.calling, qD⟩, va_recv hK.1 hPc (ci := ci) (q0 := q0) hcl he, fun U hU hW => ⟨rfl, by rw [hU], by rw [hU]; exact hPc, hK.call hS hU hW hFc, hDc.weaken (fun _ _ _ _ => trivial)⟩⟩ rfl hn hl.1 hst (lv_room hrs0) hd ⟨Nat.zero_le _, Nat.zero_le _⟩) hS (fun q _ h => hFc q h) hFc (fun r2 u t H1 locs1 ht hvm hw hB hz1 hk1 hS1 => ?_)
  obtain ⟨hP1, hD1⟩ := hB
  subst hw
  rw [ht] at hP1
  obtain ⟨hP2, hD2⟩ := va_join hP hD isC isR hC hRe hn2 hdis hk1 hFc hP1 hD1
  exact k H1 locs1 ls (hP2.sub pm (g_fm hpf)) (hD2.sub pm hn3 hpf) hS1 hl
theorem G.vl (hX : Cx E X own cc nL rt Ts rm) {index maxL n : Nat} {C : String} {y : MethodName} {wy : List Cond} {ry : Room} {As : List Value} {wc wr w1 wf : va_W} {r : Int64} {st0 : List Value} {b ci q0 : Nat} {T : u_T} {N : Nat} {fs : List Value} (hcl : vwCl[ci]? = some (C, T, N)) (he : wc[q0]? = some (b, .inr (ci, fs))) (hM : CL X.2.1 y wy ry E (.ref b :: As) wc w1 r) (hG : GoodIn Ts (wsV own index C y wy)) (hcp : CP y C wy maxL n ry) (hRR : ry.frames + 1 ≤ rm.frames ∧ 8 + (maxL + 11) + ry.locals ≤ rm.locals) (isC isR pm : List Nat) (hcut : Cut ws wc wr w1 wf isC isR pm) (hst : st0 = As.reverse ++ .ref b :: st) (hn : As.length = n) (hrs0 : (st.map fun v => v.category).sum ≤ 8) (hd : decode cc pc = .ok (.invokevirtual index, 3)) (k : G E X nL (pc + 3) lv (.long r :: st) wf) : G E X nL pc lv st0 ws := by
  obtain ⟨p, l, e, R, s, m, args, below, meth, c, Q, A⟩ := X
  have hX0 := hX
  obtain ⟨hx, hb, hml, hown, hts, hK, hA, hr, hlocks, hR⟩ := hX
  dsimp only at hx hb hml hown hts hK hA hR
  obtain ⟨⟨bytes, ret, wy', hwy⟩, hrc, hrs, hdd⟩ := hcp
  obtain ⟨hC, hRe, ⟨hn1, hn2, hn3, hdis⟩, hpf⟩ := hcut
  intro H locs ls hP hD hS hl
  dsimp only at hD hS ⊢
  have hR1 : ry.frames + 1 ≤ R.frames := by rw [hR]; exact hRR.1
  have hR2 : 8 + (maxL + 11) + ry.locals ≤ R.locals := by rw [hR]; exact hRR.2
  have hPc : va_P E.1 vwCl wc H := hP.sub isC (g_fm hC)
  have hDc := hD.sub isC hn1 hC
  have hFc := va_free hD hS hA isC hC
  refine va_calll (A1 := va_A wc H.size) (mc := 0) (ms := 0) (rest := st) (va_runV (As := As) (rest := st) ⟨hx, hb, hml, hown, hts⟩ (hM H.size) (cwV n hts hG hwy hrc hrs hdd ⟨hR1, hR2⟩) ⟨fun a U g mk q => by obtain ⟨q0, q1, qP, qK, qD⟩ := q; exact ⟨q0, q1, qP, qK.calling, qD⟩, va_recv hK.1 hPc (ci := ci) (q0 := q0) hcl he, fun U hU hW => ⟨rfl, by rw [hU], by rw [hU]; exact hPc, hK.call hS hU hW hFc, hDc.weaken (fun _ _ _ _ => trivial)⟩⟩ rfl hn hl.1 hst (lv_room hrs0) hd ⟨Nat.zero_le _, Nat.zero_le _⟩) hS (fun q _ h => hFc q h) hFc (fun r2 u t H1 locs1 ht hvm hw hB hz1 hk1 hS1 => ?_)
  obtain ⟨hP1, hD1⟩ := hB
  subst hw
  rw [ht] at hP1
  obtain ⟨hP2, hD2⟩ := va_join hP hD isC isR hC hRe hn2 hdis hk1 hFc hP1 hD1
  exact k H1 locs1 ls (hP2.sub pm (g_fm hpf)) (hD2.sub pm hn3 hpf) hS1 hl
theorem G.vv (hX : Cx E X own cc nL rt Ts rm) {index maxL n : Nat} {C : String} {y : MethodName} {wy : List Cond} {ry : Room} {As : List Value} {wc wr w1 wf : va_W} {st0 : List Value} {b ci q0 : Nat} {T : u_T} {N : Nat} {fs : List Value} (hcl : vwCl[ci]? = some (C, T, N)) (he : wc[q0]? = some (b, .inr (ci, fs))) (hM : CV X.2.1 y wy ry E (.ref b :: As) wc w1) (hG : GoodIn Ts (wsV own index C y wy)) (hcp : CP y C wy maxL n ry) (hRR : ry.frames + 1 ≤ rm.frames ∧ 8 + (maxL + 11) + ry.locals ≤ rm.locals) (isC isR pm : List Nat) (hcut : Cut ws wc wr w1 wf isC isR pm) (hst : st0 = As.reverse ++ .ref b :: st) (hn : As.length = n) (hrs0 : (st.map fun v => v.category).sum ≤ 8) (hd : decode cc pc = .ok (.invokevirtual index, 3)) (k : G E X nL (pc + 3) lv (st) wf) : G E X nL pc lv st0 ws := by
  obtain ⟨p, l, e, R, s, m, args, below, meth, c, Q, A⟩ := X
  have hX0 := hX
  obtain ⟨hx, hb, hml, hown, hts, hK, hA, hr, hlocks, hR⟩ := hX
  dsimp only at hx hb hml hown hts hK hA hR
  obtain ⟨⟨bytes, ret, wy', hwy⟩, hrc, hrs, hdd⟩ := hcp
  obtain ⟨hC, hRe, ⟨hn1, hn2, hn3, hdis⟩, hpf⟩ := hcut
  intro H locs ls hP hD hS hl
  dsimp only at hD hS ⊢
  have hR1 : ry.frames + 1 ≤ R.frames := by rw [hR]; exact hRR.1
  have hR2 : 8 + (maxL + 11) + ry.locals ≤ R.locals := by rw [hR]; exact hRR.2
  have hPc : va_P E.1 vwCl wc H := hP.sub isC (g_fm hC)
  have hDc := hD.sub isC hn1 hC
  have hFc := va_free hD hS hA isC hC
  refine va_callv (A1 := va_A wc H.size) (mc := 0) (ms := 0) (rest := st) (va_runV (As := As) (rest := st) ⟨hx, hb, hml, hown, hts⟩ (hM H.size) (cwV n hts hG hwy hrc hrs hdd ⟨hR1, hR2⟩) ⟨fun a U g mk q => by obtain ⟨q0, q1, qP, qK, qD⟩ := q; exact ⟨q0, q1, qP, qK.calling, qD⟩, va_recv hK.1 hPc (ci := ci) (q0 := q0) hcl he, fun U hU hW => ⟨rfl, by rw [hU], by rw [hU]; exact hPc, hK.call hS hU hW hFc, hDc.weaken (fun _ _ _ _ => trivial)⟩⟩ rfl hn hl.1 hst (lv_room hrs0) hd ⟨Nat.zero_le _, Nat.zero_le _⟩) hS (fun q _ h => hFc q h) hFc (fun u t H1 locs1 ht hvm hw hB hz1 hk1 hS1 => ?_)
  obtain ⟨hP1, hD1⟩ := hB
  rw [ht] at hP1
  obtain ⟨hP2, hD2⟩ := va_join hP hD isC isR hC hRe hn2 hdis hk1 hFc hP1 hD1
  exact k H1 locs1 ls (hP2.sub pm (g_fm hpf)) (hD2.sub pm hn3 hpf) hS1 hl
theorem G.vr (hX : Cx E X own cc nL rt Ts rm) {index maxL n : Nat} {C : String} {y : MethodName} {wy : List Cond} {ry : Room} {As : List Value} {wc wr w1 wf : va_W} {r : Nat} {st0 : List Value} {b ci q0 : Nat} {T : u_T} {N : Nat} {fs : List Value} (hcl : vwCl[ci]? = some (C, T, N)) (he : wc[q0]? = some (b, .inr (ci, fs))) (hM : CR X.2.1 y wy ry E (.ref b :: As) wc w1 r) (hG : GoodIn Ts (wsV own index C y wy)) (hcp : CP y C wy maxL n ry) (hRR : ry.frames + 1 ≤ rm.frames ∧ 8 + (maxL + 11) + ry.locals ≤ rm.locals) (isC isR pm : List Nat) (hcut : Cut ws wc wr w1 wf isC isR pm) (hst : st0 = As.reverse ++ .ref b :: st) (hn : As.length = n) (hrs0 : (st.map fun v => v.category).sum ≤ 8) (hd : decode cc pc = .ok (.invokevirtual index, 3)) (k : G E X nL (pc + 3) lv (.ref r :: st) wf) : G E X nL pc lv st0 ws := by
  obtain ⟨p, l, e, R, s, m, args, below, meth, c, Q, A⟩ := X
  have hX0 := hX
  obtain ⟨hx, hb, hml, hown, hts, hK, hA, hr, hlocks, hR⟩ := hX
  dsimp only at hx hb hml hown hts hK hA hR
  obtain ⟨⟨bytes, ret, wy', hwy⟩, hrc, hrs, hdd⟩ := hcp
  obtain ⟨hC, hRe, ⟨hn1, hn2, hn3, hdis⟩, hpf⟩ := hcut
  intro H locs ls hP hD hS hl
  dsimp only at hD hS ⊢
  have hR1 : ry.frames + 1 ≤ R.frames := by rw [hR]; exact hRR.1
  have hR2 : 8 + (maxL + 11) + ry.locals ≤ R.locals := by rw [hR]; exact hRR.2
  have hPc : va_P E.1 vwCl wc H := hP.sub isC (g_fm hC)
  have hDc := hD.sub isC hn1 hC
  have hFc := va_free hD hS hA isC hC
  refine va_callr (A1 := va_A wc H.size) (mc := 0) (ms := 0) (rest := st) (va_runV (As := As) (rest := st) ⟨hx, hb, hml, hown, hts⟩ (hM H.size) (cwV n hts hG hwy hrc hrs hdd ⟨hR1, hR2⟩) ⟨fun a U g mk q => by obtain ⟨q0, q1, qP, qK, qD⟩ := q; exact ⟨q0, q1, qP, qK.calling, qD⟩, va_recv hK.1 hPc (ci := ci) (q0 := q0) hcl he, fun U hU hW => ⟨rfl, by rw [hU], by rw [hU]; exact hPc, hK.call hS hU hW hFc, hDc.weaken (fun _ _ _ _ => trivial)⟩⟩ rfl hn hl.1 hst (lv_room hrs0) hd ⟨Nat.zero_le _, Nat.zero_le _⟩) hS (fun q _ h => hFc q h) hFc (fun u r2 t H1 locs1 ht hvm hw hB hz1 hk1 hS1 => ?_)
  obtain ⟨hra, hP1, hD1⟩ := hB
  subst hra
  rw [ht] at hP1
  obtain ⟨hP2, hD2⟩ := va_join hP hD isC isR hC hRe hn2 hdis hk1 hFc hP1 hD1
  exact k H1 locs1 ls (hP2.sub pm (g_fm hpf)) (hD2.sub pm hn3 hpf) hS1 hl
theorem G.si (hX : Cx E X own cc nL rt Ts rm) {index maxL n : Nat} {C : String} {y : MethodName} {wy : List Cond} {ry : Room} {As : List Value} {wc wr w1 wf : va_W} {r : Int32} {st0 : List Value} (hM : CI X.2.1 y wy ry E (As) wc w1 r) (hG : GoodIn Ts (va_wsS own index y wy)) (hcp : CP y C wy maxL n ry) (hRR : ry.frames + 1 ≤ rm.frames ∧ 8 + (maxL + 11) + ry.locals ≤ rm.locals) (isC isR pm : List Nat) (hcut : Cut ws wc wr w1 wf isC isR pm) (hst : st0 = As.reverse ++ st) (hn : As.length = n) (hrs0 : (st.map fun v => v.category).sum ≤ 8) (hd : decode cc pc = .ok (.invokestatic index, 3)) (k : G E X nL (pc + 3) lv (.int r :: st) wf) : G E X nL pc lv st0 ws := by
  obtain ⟨p, l, e, R, s, m, args, below, meth, c, Q, A⟩ := X
  have hX0 := hX
  obtain ⟨hx, hb, hml, hown, hts, hK, hA, hr, hlocks, hR⟩ := hX
  dsimp only at hx hb hml hown hts hK hA hR
  obtain ⟨⟨bytes, ret, wy', hwy⟩, hrc, hrs, hdd⟩ := hcp
  obtain ⟨hC, hRe, ⟨hn1, hn2, hn3, hdis⟩, hpf⟩ := hcut
  intro H locs ls hP hD hS hl
  dsimp only at hD hS ⊢
  have hR1 : ry.frames + 1 ≤ R.frames := by rw [hR]; exact hRR.1
  have hR2 : 8 + (maxL + 11) + ry.locals ≤ R.locals := by rw [hR]; exact hRR.2
  have hPc : va_P E.1 vwCl wc H := hP.sub isC (g_fm hC)
  have hDc := hD.sub isC hn1 hC
  have hFc := va_free hD hS hA isC hC
  refine va_calli (A1 := va_A wc H.size) (mc := 0) (ms := 0) (rest := st) (va_runS (As := As) (rest := st) ⟨hx, hb, hml, hown, hts⟩ (hM H.size) (va_cwS n hts hG hwy hrc hrs hdd.2 ⟨hR1, hR2⟩) ⟨fun a U g mk q => by obtain ⟨q0, q1, qP, qK, qD⟩ := q; exact ⟨q0, q1, qP, qK.calling, qD⟩, fun U hU hW => ⟨rfl, by rw [hU], by rw [hU]; exact hPc, hK.call hS hU hW hFc, hDc.weaken (fun _ _ _ _ => trivial)⟩⟩ rfl hn hl.1 hst (lv_room hrs0) hd ⟨Nat.zero_le _, Nat.zero_le _⟩) hS (fun q _ h => hFc q h) hFc (fun r2 u t H1 locs1 ht hvm hw hB hz1 hk1 hS1 => ?_)
  obtain ⟨hP1, hD1⟩ := hB
  subst hw
  rw [ht] at hP1
  obtain ⟨hP2, hD2⟩ := va_join hP hD isC isR hC hRe hn2 hdis hk1 hFc hP1 hD1
  exact k H1 locs1 ls (hP2.sub pm (g_fm hpf)) (hD2.sub pm hn3 hpf) hS1 hl
theorem G.sl (hX : Cx E X own cc nL rt Ts rm) {index maxL n : Nat} {C : String} {y : MethodName} {wy : List Cond} {ry : Room} {As : List Value} {wc wr w1 wf : va_W} {r : Int64} {st0 : List Value} (hM : CL X.2.1 y wy ry E (As) wc w1 r) (hG : GoodIn Ts (va_wsS own index y wy)) (hcp : CP y C wy maxL n ry) (hRR : ry.frames + 1 ≤ rm.frames ∧ 8 + (maxL + 11) + ry.locals ≤ rm.locals) (isC isR pm : List Nat) (hcut : Cut ws wc wr w1 wf isC isR pm) (hst : st0 = As.reverse ++ st) (hn : As.length = n) (hrs0 : (st.map fun v => v.category).sum ≤ 8) (hd : decode cc pc = .ok (.invokestatic index, 3)) (k : G E X nL (pc + 3) lv (.long r :: st) wf) : G E X nL pc lv st0 ws := by
  obtain ⟨p, l, e, R, s, m, args, below, meth, c, Q, A⟩ := X
  have hX0 := hX
  obtain ⟨hx, hb, hml, hown, hts, hK, hA, hr, hlocks, hR⟩ := hX
  dsimp only at hx hb hml hown hts hK hA hR
  obtain ⟨⟨bytes, ret, wy', hwy⟩, hrc, hrs, hdd⟩ := hcp
  obtain ⟨hC, hRe, ⟨hn1, hn2, hn3, hdis⟩, hpf⟩ := hcut
  intro H locs ls hP hD hS hl
  dsimp only at hD hS ⊢
  have hR1 : ry.frames + 1 ≤ R.frames := by rw [hR]; exact hRR.1
  have hR2 : 8 + (maxL + 11) + ry.locals ≤ R.locals := by rw [hR]; exact hRR.2
  have hPc : va_P E.1 vwCl wc H := hP.sub isC (g_fm hC)
  have hDc := hD.sub isC hn1 hC
  have hFc := va_free hD hS hA isC hC
  refine va_calll (A1 := va_A wc H.size) (mc := 0) (ms := 0) (rest := st) (va_runS (As := As) (rest := st) ⟨hx, hb, hml, hown, hts⟩ (hM H.size) (va_cwS n hts hG hwy hrc hrs hdd.2 ⟨hR1, hR2⟩) ⟨fun a U g mk q => by obtain ⟨q0, q1, qP, qK, qD⟩ := q; exact ⟨q0, q1, qP, qK.calling, qD⟩, fun U hU hW => ⟨rfl, by rw [hU], by rw [hU]; exact hPc, hK.call hS hU hW hFc, hDc.weaken (fun _ _ _ _ => trivial)⟩⟩ rfl hn hl.1 hst (lv_room hrs0) hd ⟨Nat.zero_le _, Nat.zero_le _⟩) hS (fun q _ h => hFc q h) hFc (fun r2 u t H1 locs1 ht hvm hw hB hz1 hk1 hS1 => ?_)
  obtain ⟨hP1, hD1⟩ := hB
  subst hw
  rw [ht] at hP1
  obtain ⟨hP2, hD2⟩ := va_join hP hD isC isR hC hRe hn2 hdis hk1 hFc hP1 hD1
  exact k H1 locs1 ls (hP2.sub pm (g_fm hpf)) (hD2.sub pm hn3 hpf) hS1 hl
theorem G.sv (hX : Cx E X own cc nL rt Ts rm) {index maxL n : Nat} {C : String} {y : MethodName} {wy : List Cond} {ry : Room} {As : List Value} {wc wr w1 wf : va_W} {st0 : List Value} (hM : CV X.2.1 y wy ry E (As) wc w1) (hG : GoodIn Ts (va_wsS own index y wy)) (hcp : CP y C wy maxL n ry) (hRR : ry.frames + 1 ≤ rm.frames ∧ 8 + (maxL + 11) + ry.locals ≤ rm.locals) (isC isR pm : List Nat) (hcut : Cut ws wc wr w1 wf isC isR pm) (hst : st0 = As.reverse ++ st) (hn : As.length = n) (hrs0 : (st.map fun v => v.category).sum ≤ 8) (hd : decode cc pc = .ok (.invokestatic index, 3)) (k : G E X nL (pc + 3) lv (st) wf) : G E X nL pc lv st0 ws := by
  obtain ⟨p, l, e, R, s, m, args, below, meth, c, Q, A⟩ := X
  have hX0 := hX
  obtain ⟨hx, hb, hml, hown, hts, hK, hA, hr, hlocks, hR⟩ := hX
  dsimp only at hx hb hml hown hts hK hA hR
  obtain ⟨⟨bytes, ret, wy', hwy⟩, hrc, hrs, hdd⟩ := hcp
  obtain ⟨hC, hRe, ⟨hn1, hn2, hn3, hdis⟩, hpf⟩ := hcut
  intro H locs ls hP hD hS hl
  dsimp only at hD hS ⊢
  have hR1 : ry.frames + 1 ≤ R.frames := by rw [hR]; exact hRR.1
  have hR2 : 8 + (maxL + 11) + ry.locals ≤ R.locals := by rw [hR]; exact hRR.2
  have hPc : va_P E.1 vwCl wc H := hP.sub isC (g_fm hC)
  have hDc := hD.sub isC hn1 hC
  have hFc := va_free hD hS hA isC hC
  refine va_callv (A1 := va_A wc H.size) (mc := 0) (ms := 0) (rest := st) (va_runS (As := As) (rest := st) ⟨hx, hb, hml, hown, hts⟩ (hM H.size) (va_cwS n hts hG hwy hrc hrs hdd.2 ⟨hR1, hR2⟩) ⟨fun a U g mk q => by obtain ⟨q0, q1, qP, qK, qD⟩ := q; exact ⟨q0, q1, qP, qK.calling, qD⟩, fun U hU hW => ⟨rfl, by rw [hU], by rw [hU]; exact hPc, hK.call hS hU hW hFc, hDc.weaken (fun _ _ _ _ => trivial)⟩⟩ rfl hn hl.1 hst (lv_room hrs0) hd ⟨Nat.zero_le _, Nat.zero_le _⟩) hS (fun q _ h => hFc q h) hFc (fun u t H1 locs1 ht hvm hw hB hz1 hk1 hS1 => ?_)
  obtain ⟨hP1, hD1⟩ := hB
  rw [ht] at hP1
  obtain ⟨hP2, hD2⟩ := va_join hP hD isC isR hC hRe hn2 hdis hk1 hFc hP1 hD1
  exact k H1 locs1 ls (hP2.sub pm (g_fm hpf)) (hD2.sub pm hn3 hpf) hS1 hl
theorem G.sr (hX : Cx E X own cc nL rt Ts rm) {index maxL n : Nat} {C : String} {y : MethodName} {wy : List Cond} {ry : Room} {As : List Value} {wc wr w1 wf : va_W} {r : Nat} {st0 : List Value} (hM : CR X.2.1 y wy ry E (As) wc w1 r) (hG : GoodIn Ts (va_wsS own index y wy)) (hcp : CP y C wy maxL n ry) (hRR : ry.frames + 1 ≤ rm.frames ∧ 8 + (maxL + 11) + ry.locals ≤ rm.locals) (isC isR pm : List Nat) (hcut : Cut ws wc wr w1 wf isC isR pm) (hst : st0 = As.reverse ++ st) (hn : As.length = n) (hrs0 : (st.map fun v => v.category).sum ≤ 8) (hd : decode cc pc = .ok (.invokestatic index, 3)) (k : G E X nL (pc + 3) lv (.ref r :: st) wf) : G E X nL pc lv st0 ws := by
  obtain ⟨p, l, e, R, s, m, args, below, meth, c, Q, A⟩ := X
  have hX0 := hX
  obtain ⟨hx, hb, hml, hown, hts, hK, hA, hr, hlocks, hR⟩ := hX
  dsimp only at hx hb hml hown hts hK hA hR
  obtain ⟨⟨bytes, ret, wy', hwy⟩, hrc, hrs, hdd⟩ := hcp
  obtain ⟨hC, hRe, ⟨hn1, hn2, hn3, hdis⟩, hpf⟩ := hcut
  intro H locs ls hP hD hS hl
  dsimp only at hD hS ⊢
  have hR1 : ry.frames + 1 ≤ R.frames := by rw [hR]; exact hRR.1
  have hR2 : 8 + (maxL + 11) + ry.locals ≤ R.locals := by rw [hR]; exact hRR.2
  have hPc : va_P E.1 vwCl wc H := hP.sub isC (g_fm hC)
  have hDc := hD.sub isC hn1 hC
  have hFc := va_free hD hS hA isC hC
  refine va_callr (A1 := va_A wc H.size) (mc := 0) (ms := 0) (rest := st) (va_runS (As := As) (rest := st) ⟨hx, hb, hml, hown, hts⟩ (hM H.size) (va_cwS n hts hG hwy hrc hrs hdd.2 ⟨hR1, hR2⟩) ⟨fun a U g mk q => by obtain ⟨q0, q1, qP, qK, qD⟩ := q; exact ⟨q0, q1, qP, qK.calling, qD⟩, fun U hU hW => ⟨rfl, by rw [hU], by rw [hU]; exact hPc, hK.call hS hU hW hFc, hDc.weaken (fun _ _ _ _ => trivial)⟩⟩ rfl hn hl.1 hst (lv_room hrs0) hd ⟨Nat.zero_le _, Nat.zero_le _⟩) hS (fun q _ h => hFc q h) hFc (fun u r2 t H1 locs1 ht hvm hw hB hz1 hk1 hS1 => ?_)
  obtain ⟨hra, hP1, hD1⟩ := hB
  subst hra
  rw [ht] at hP1
  obtain ⟨hP2, hD2⟩ := va_join hP hD isC isR hC hRe hn2 hdis hk1 hFc hP1 hD1
  exact k H1 locs1 ls (hP2.sub pm (g_fm hpf)) (hD2.sub pm hn3 hpf) hS1 hl
theorem G.sni (hX : Cx E X own cc nL rt Ts rm) {index maxL n : Nat} {C : String} {y : MethodName} {wy : List Cond} {ry : Room} {As : List Value} {wc wr w1 wf : va_W} {r : Int32} {st0 : List Value} (hM : CI X.2.1 y wy ry E (As) wc w1 r) (hG : GoodIn Ts wy) (hS1 : Cond.static y ∈ Ts) (hI : Cond.initialized y.cls ∈ Ts) {host : String} (hN : va_Nw (.methodLinkNest own index y host) X.2.2.2.2.1) (hcp : CP y C wy maxL n ry) (hRR : ry.frames + 1 ≤ rm.frames ∧ 8 + (maxL + 11) + ry.locals ≤ rm.locals) (isC isR pm : List Nat) (hcut : Cut ws wc wr w1 wf isC isR pm) (hst : st0 = As.reverse ++ st) (hn : As.length = n) (hrs0 : (st.map fun v => v.category).sum ≤ 8) (hd : decode cc pc = .ok (.invokestatic index, 3)) (k : G E X nL (pc + 3) lv (.int r :: st) wf) : G E X nL pc lv st0 ws := by
  obtain ⟨p, l, e, R, s, m, args, below, meth, c, Q, A⟩ := X
  have hX0 := hX
  obtain ⟨hx, hb, hml, hown, hts, hK, hA, hr, hlocks, hR⟩ := hX
  dsimp only at hx hb hml hown hts hK hA hR
  obtain ⟨⟨bytes, ret, wy', hwy⟩, hrc, hrs, hdd⟩ := hcp
  obtain ⟨hC, hRe, ⟨hn1, hn2, hn3, hdis⟩, hpf⟩ := hcut
  intro H locs ls hP hD hS hl
  dsimp only at hD hS ⊢
  have hR1 : ry.frames + 1 ≤ R.frames := by rw [hR]; exact hRR.1
  have hR2 : 8 + (maxL + 11) + ry.locals ≤ R.locals := by rw [hR]; exact hRR.2
  have hPc : va_P E.1 vwCl wc H := hP.sub isC (g_fm hC)
  have hDc := hD.sub isC hn1 hC
  have hFc := va_free hD hS hA isC hC
  refine va_calli (A1 := va_A wc H.size) (mc := 0) (ms := 0) (rest := st) (va_runSN (As := As) (rest := st) ⟨hx, hb, hml, hown, hts⟩ (hM H.size) ⟨va_cnB n hts hG hwy hrc hrs hN (hts _ hI) hdd.2 ⟨hR1, hR2⟩, hts _ hS1, trivial⟩ ⟨fun a U g mk q => by obtain ⟨q0, q1, qP, qK, qD⟩ := q; exact ⟨q0, q1, qP, qK.calling, qD⟩, fun U hU hW => ⟨rfl, by rw [hU], by rw [hU]; exact hPc, hK.call hS hU hW hFc, hDc.weaken (fun _ _ _ _ => trivial)⟩⟩ rfl hn hl.1 hst (lv_room hrs0) hd ⟨Nat.zero_le _, Nat.zero_le _⟩) hS (fun q _ h => hFc q h) hFc (fun r2 u t H1 locs1 ht hvm hw hB hz1 hk1 hS1 => ?_)
  obtain ⟨hP1, hD1⟩ := hB
  subst hw
  rw [ht] at hP1
  obtain ⟨hP2, hD2⟩ := va_join hP hD isC isR hC hRe hn2 hdis hk1 hFc hP1 hD1
  exact k H1 locs1 ls (hP2.sub pm (g_fm hpf)) (hD2.sub pm hn3 hpf) hS1 hl
def bI (b : Bool) : Int32 := if b then 1 else 0
theorem bI_z (b : Bool) : narrow .boolean (.int (bI b)) = .int (bI b) := by cases b <;> rfl
theorem bI_0 {b : Bool} : bI b = 0 ↔ b = false := by cases b <;> simp [bI]
theorem bI_n {b : Bool} : ¬ bI b = 0 ↔ b = true := by cases b <;> simp [bI]
theorem bI_1 {b : Bool} : bI b = 1 ↔ b = true := by cases b <;> simp [bI]
theorem g_ndup : ∀ {l : List Nat}, l.Nodup → va_nd l = true
  | [], _ => rfl
  | a :: l, h => by
    rw [List.nodup_cons] at h
    simp [va_nd, h.1, g_ndup h.2]
theorem g_nd (n : Nat) : va_nd (List.range n) = true := g_ndup List.nodup_range
theorem g_all {α : Type} (ws : List α) : (List.range ws.length).map (fun i => ws[i]?) = ws.map some := by
  apply List.ext_getElem?
  intro i
  rw [List.getElem?_map, List.getElem?_map]
  by_cases h : i < ws.length
  · rw [List.getElem?_range h]
    simp [h]
  · rw [List.getElem?_eq_none (by simpa using h), List.getElem?_eq_none (by simpa using h)]
    rfl
theorem G.b_eq (hX : Cx E X own cc nL rt Ts rm) {b : Bool} {off : Int} {tgt : Nat} (ht : (pc : Int) + off = (tgt : Int)) (hd : decode cc pc = .ok (.ifCond .eq off, 3)) (kt : b = false → G E X nL tgt lv st ws) (kf : b = true → G E X nL (pc + 3) lv st ws) : G E X nL pc lv (.int (bI b) :: st) ws := G.if_eq hX ht hd (fun h => kt (bI_0.mp h)) (fun h => kf (bI_n.mp h))
theorem G.b_ne (hX : Cx E X own cc nL rt Ts rm) {b : Bool} {off : Int} {tgt : Nat} (ht : (pc : Int) + off = (tgt : Int)) (hd : decode cc pc = .ok (.ifCond .ne off, 3)) (kt : b = true → G E X nL tgt lv st ws) (kf : b = false → G E X nL (pc + 3) lv st ws) : G E X nL pc lv (.int (bI b) :: st) ws := G.if_ne hX ht hd (fun h => kt (bI_n.mp h)) (fun h => kf (bI_0.mp h))
theorem G.n_eq (hX : Cx E X own cc nL rt Ts rm) {a b : Nat} {off : Int} {tgt : Nat} (ha : a < 2 ^ 31) (hb : b < 2 ^ 31) (ht : (pc : Int) + off = (tgt : Int)) (hd : decode cc pc = .ok (.if_icmp .eq off, 3)) (kt : a = b → G E X nL tgt lv st ws) (kf : a ≠ b → G E X nL (pc + 3) lv st ws) : G E X nL pc lv (.int (nI b) :: .int (nI a) :: st) ws := G.icmp_eq hX ht hd (fun h => kt ((nI_eq ha hb).mp h)) (fun h => kf (fun e => h ((nI_eq ha hb).mpr e)))
theorem G.n_ne (hX : Cx E X own cc nL rt Ts rm) {a b : Nat} {off : Int} {tgt : Nat} (ha : a < 2 ^ 31) (hb : b < 2 ^ 31) (ht : (pc : Int) + off = (tgt : Int)) (hd : decode cc pc = .ok (.if_icmp .ne off, 3)) (kt : a ≠ b → G E X nL tgt lv st ws) (kf : a = b → G E X nL (pc + 3) lv st ws) : G E X nL pc lv (.int (nI b) :: .int (nI a) :: st) ws := G.icmp_ne hX ht hd (fun h => kt (fun e => h ((nI_eq ha hb).mpr e))) (fun h => kf ((nI_eq ha hb).mp h))
theorem G.n_lt (hX : Cx E X own cc nL rt Ts rm) {a b : Nat} {off : Int} {tgt : Nat} (ha : a < 2 ^ 31) (hb : b < 2 ^ 31) (ht : (pc : Int) + off = (tgt : Int)) (hd : decode cc pc = .ok (.if_icmp .lt off, 3)) (kt : a < b → G E X nL tgt lv st ws) (kf : b ≤ a → G E X nL (pc + 3) lv st ws) : G E X nL pc lv (.int (nI b) :: .int (nI a) :: st) ws := G.icmp_lt hX ht hd (fun h => kt ((nI_ltI ha hb).mp h)) (fun h => kf (Nat.not_lt.mp (fun e => h ((nI_ltI ha hb).mpr e))))
theorem G.n_ge (hX : Cx E X own cc nL rt Ts rm) {a b : Nat} {off : Int} {tgt : Nat} (ha : a < 2 ^ 31) (hb : b < 2 ^ 31) (ht : (pc : Int) + off = (tgt : Int)) (hd : decode cc pc = .ok (.if_icmp .ge off, 3)) (kt : b ≤ a → G E X nL tgt lv st ws) (kf : a < b → G E X nL (pc + 3) lv st ws) : G E X nL pc lv (.int (nI b) :: .int (nI a) :: st) ws := G.icmp_ge hX ht hd (fun h => kt ((nI_leI hb ha).mp h)) (fun h => kf (Nat.not_le.mp (fun e => h ((nI_leI hb ha).mpr e))))
theorem G.n_gt (hX : Cx E X own cc nL rt Ts rm) {a b : Nat} {off : Int} {tgt : Nat} (ha : a < 2 ^ 31) (hb : b < 2 ^ 31) (ht : (pc : Int) + off = (tgt : Int)) (hd : decode cc pc = .ok (.if_icmp .gt off, 3)) (kt : b < a → G E X nL tgt lv st ws) (kf : a ≤ b → G E X nL (pc + 3) lv st ws) : G E X nL pc lv (.int (nI b) :: .int (nI a) :: st) ws := G.icmp_gt hX ht hd (fun h => kt ((nI_ltI hb ha).mp h)) (fun h => kf (Nat.not_lt.mp (fun e => h ((nI_ltI hb ha).mpr e))))
theorem G.n_le (hX : Cx E X own cc nL rt Ts rm) {a b : Nat} {off : Int} {tgt : Nat} (ha : a < 2 ^ 31) (hb : b < 2 ^ 31) (ht : (pc : Int) + off = (tgt : Int)) (hd : decode cc pc = .ok (.if_icmp .le off, 3)) (kt : a ≤ b → G E X nL tgt lv st ws) (kf : b < a → G E X nL (pc + 3) lv st ws) : G E X nL pc lv (.int (nI b) :: .int (nI a) :: st) ws := G.icmp_le hX ht hd (fun h => kt ((nI_leI ha hb).mp h)) (fun h => kf (Nat.not_le.mp (fun e => h ((nI_leI ha hb).mpr e))))
theorem G.s0i (hX : Cx E X own cc nL rt Ts rm) {index maxL n : Nat} {C : String} {y : MethodName} {wy : List Cond} {ry : Room} {As : List Value} {r : Int32} {st0 : List Value} (hM : CI X.2.1 y wy ry E As [] [] r) (hG : GoodIn Ts (va_wsS own index y wy)) (hcp : CP y C wy maxL n ry) (hRR : ry.frames + 1 ≤ rm.frames ∧ 8 + (maxL + 11) + ry.locals ≤ rm.locals) (hst : st0 = As.reverse ++ st) (hn : As.length = n) (hrs0 : (st.map fun v => v.category).sum ≤ 8) (hd : decode cc pc = .ok (.invokestatic index, 3)) (k : G E X nL (pc + 3) lv (.int r :: st) ws) : G E X nL pc lv st0 ws := G.si hX hM hG hcp hRR [] (List.range ws.length) (List.range ws.length) ⟨rfl, g_all ws, ⟨rfl, g_nd _, g_nd _, fun _ _ h => by cases h⟩, by rw [List.append_nil]; exact g_all ws⟩ hst hn hrs0 hd k
theorem G.s0l (hX : Cx E X own cc nL rt Ts rm) {index maxL n : Nat} {C : String} {y : MethodName} {wy : List Cond} {ry : Room} {As : List Value} {r : Int64} {st0 : List Value} (hM : CL X.2.1 y wy ry E As [] [] r) (hG : GoodIn Ts (va_wsS own index y wy)) (hcp : CP y C wy maxL n ry) (hRR : ry.frames + 1 ≤ rm.frames ∧ 8 + (maxL + 11) + ry.locals ≤ rm.locals) (hst : st0 = As.reverse ++ st) (hn : As.length = n) (hrs0 : (st.map fun v => v.category).sum ≤ 8) (hd : decode cc pc = .ok (.invokestatic index, 3)) (k : G E X nL (pc + 3) lv (.long r :: st) ws) : G E X nL pc lv st0 ws := G.sl hX hM hG hcp hRR [] (List.range ws.length) (List.range ws.length) ⟨rfl, g_all ws, ⟨rfl, g_nd _, g_nd _, fun _ _ h => by cases h⟩, by rw [List.append_nil]; exact g_all ws⟩ hst hn hrs0 hd k
end GR
/-- a contract over some cells is one over more -/
theorem g_dummy : True := trivial
