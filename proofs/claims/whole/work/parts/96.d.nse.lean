/-! ===== an exception whose constructor calls its parent's by another pool entry than 7 (NoSuchElementException: 13): its words; what the machine does at its constructor, and at athrow ===== -/
/-- the words of the exception's own class, and of the entry that calls its constructor -/
def zx_own (own : String) (ic : Nat) (X : String) : List Cond :=
  [("cause", "Ljava/lang/Throwable;"), ("stackTrace", Bundle.steD), ("suppressedExceptions", Bundle.listD), ("detailMessage", "Ljava/lang/String;"), ("backtrace", "Ljava/lang/Object;")].map (fun q => Cond.lays X Bundle.tN q.1 q.2) ++
  ([Cond.methodLink own ic (Bundle.initS X), Cond.instantiable X 6] ++ [Bundle.tFill0, Bundle.tFill].map (fun y => Cond.selects X y y))
/-- the words of a trace that is never filled in -/
def zx_off : List Cond := [.isRef (.static Bundle.tN "UNASSIGNED_STACK" Bundle.steD), .isRef (.static Bundle.tN "SUPPRESSED_SENTINEL" Bundle.listD), .fieldLink Bundle.tN 198 Bundle.tN "backtrace" "Ljava/lang/Object;", .lays Bundle.tN Bundle.tN "backtrace" "Ljava/lang/Object;"]
def z_oa9 (own : String) (ic : Nat) (X Y : String) (ix : Nat) (by9 : ByteArray) (names : List String) : List Cond :=
  (Bundle.throwableAtoms ++ Bundle.throwableSAtoms) ++ ((Bundle.passSAtoms X Y ix by9 ++ Bundle.chainSAtoms Y names) ++ (zx_own own ic X ++ zx_off))
/-- a field that a class lays, in a fresh object of it: it takes what fits, it begins as its type's default, it is told by its name -/
theorem zx_laid {s : State} {args : Array Value} {C O f d : String} {cc c1 i : Nat} {k k1 : Class} {fd : Field} (hc : s.vm.findClass C = some cc) (hk : s.vm.classes[cc]? = some k) (ho : k.kind = .ordinary) (hf : s.fieldFound? O f d = some (c1, k1, i, fd)) (hw : (Cond.lays C O f d).before args s = true) :
    (∀ v, fits fd.type v = true → Takes s (freshCell cc k) fd v) ∧ (freshCell cc k).slots[fd.slot]? = some (defaultValue fd.type) ∧ ∃ q : Class × Field, Jmm.declares? s.vm fd.slot (cc + 1) cc = some q ∧ q.2.name = fd.name := by
  obtain ⟨t, q, h1, h2⟩ := Cond.laysAt hc hk hf (show (Cond.lays C O f d).holds args s none s [] = true from hw)
  exact ⟨fun v hv => Takes.of_laid hk ho t hv, fresh_default t, q, h1, h2⟩
theorem zx_apart {s : State} {cc : Nat} {f g : Field} (hf : ∃ q : Class × Field, Jmm.declares? s.vm f.slot (cc + 1) cc = some q ∧ q.2.name = f.name) (hg : ∃ q : Class × Field, Jmm.declares? s.vm g.slot (cc + 1) cc = some q ∧ q.2.name = g.name) (h : f.name ≠ g.name) : f.slot ≠ g.slot := by
  obtain ⟨q1, a1, a2⟩ := hf
  obtain ⟨q2, b1, b2⟩ := hg
  exact Cond.laysApart a1 b1 a2 b2 h
section
variable {p : Program} {l : Launch} {e : Env} {R : Room} {s : State} {m : MethodId} {args : Array Value} {below : List Frame} {meth : Method} {c : Code} {W : State} {cells slots : Nat}
/-- a method that the class takes over as it is: it's the one that is chosen -/
theorem zx_sel (X : Stand p l e R s m args below meth c W [] cells slots) {C : String} {cc : ClassId} {y : MethodName} {q : MethodId} (hc : s.vm.findClass C = some cc) (hy : y.cls ≠ "java/lang/invoke/MethodHandle" ∧ y.cls ≠ "java/lang/invoke/VarHandle") (hq : s.methodNamed? y = some q) (hw : (Cond.selects C y y).before args s = true) : selectMethod e.platform s.vm cc q = .method q := by
  obtain ⟨c2, r2, m2, q1, q2, q3, q4, -⟩ := Cond.selects_spec (show (Cond.selects C y y).holds args s none s [] = true from hw)
  have e1 := Option.some.inj (q1.symm.trans hc)
  have e2 := Option.some.inj (q2.symm.trans (State.methodFound?_of_named hq hy))
  have e3 := Option.some.inj (q3.symm.trans hq)
  subst e1 e2 e3
  rw [Launch.admits_selectMethod X.admits]
  exact q4
/-- nothing old has been written: a cell of statics stands as it stood -/
theorem zx_stat (X : Stand p l e R s m args below meth c W [] cells slots) {a : Addr} {x : Cell} (hx : s.heap[a]? = some x) (hst : x.vm.isStatics = true) : ∃ y, W.heap[a]? = some y ∧ y.vm ≠ .unknown ∧ ∀ i : Nat, y.slots[i]? = x.slots[i]? := by
  obtain ⟨y, h1, h2, -, h3⟩ := X.same.2.2.2.2.2 a x hx
  refine ⟨y, h1, fun hu => ?_, fun i => h3 i List.not_mem_nil⟩
  rw [h2] at hu
  have h4 : x.vm = .unknown := hu
  rw [h4] at hst
  cases hst
set_option maxHeartbeats 2000000 in
theorem z_ctor9 (X : Stand p l e R s m args below meth c W [] cells slots) (hexec : p.tables.exec = Jvm.exec) (htr : e.platform.stackTraces = false) {own cls Y : String} {names : List String} {ic ix : Nat} {by9 : ByteArray}
    (hown : s.vm.findClass own = some m.cls) (hcls : Bundle.fit cls = true) (hY : Bundle.fit Y = true) (hnames : ∀ n ∈ names, Bundle.fit n = true)
    (g0 : decode by9 0 = .ok (.aload_n 0, 1)) (g1 : decode by9 1 = .ok (.aload_n 1, 1)) (g2 : decode by9 2 = .ok (.invokespecial ix, 3)) (g5 : decode by9 5 = .ok (.return_, 1))
    (hw : ∀ w ∈ z_oa9 own ic cls Y ix by9 names, w.before args s = true) {a : Addr} {cX : ClassId} {kX : Class} (hcX : s.vm.findClass cls = some cX) (hkX : s.vm.classes[cX]? = some kX) (hcell : W.heap[a]? = some (freshCell cX kX)) (hnew : s.heap.size ≤ a)
    {msg : Value} (hmsg : msg.isRef = true) {ls : Array Slot} {q : Nat} {rest : List Value} (hls : ls.size = c.maxLocals) (d7 : decode c.code q = .ok (.invokespecial ic, 3)) (d10 : decode c.code (q + 3) = .ok (.athrow, 1)) (hout : ∀ x ∈ c.exceptionTable.toList, covers x (q + 3) = false)
    (hfr : names.length + 4 < R.frames) (hlo : (rest.map fun v => v.category).sum + (13 * (names.length + 2) + 43) ≤ R.locals) (hlocks : meth.locks = false) :
    ∃ U : State, Steps p.tables e below (W.setTop { method := m, pc := q, locals := ls, stack := msg :: .ref a :: .ref a :: rest, locked := none }) U ∧ U.status = .running ∧ Ended U below (.threw a) ∧ s.WarmedH U.vm ∧ s.sameButNew ({ U with vm := s.vm } : State) [] cells slots ∧
      ∃ ce, U.heap[a]? = some ce ∧ ce.vm = .none ∧ s.vm.findClass cls = some ce.cls := by
  have hpl : e.platform.magicAccessors = ({} : Platform).magicAccessors := by rw [X.admits.platform]
  -- the tables' words: Throwable, its constructor with a text, the exception's constructor, its parents'
  obtain ⟨T, Z0, L, -, Y9⟩ := ThrowableC.of_atoms (args := args) (show e.platform.frameOwnsMonitors = true by rw [X.admits.platform]) (show e.platform.finalization = false by rw [X.admits.platform]) hpl (fun w h => hw w (by simp [z_oa9, h]))
  obtain ⟨Z, M, LZ, LM, hZ⟩ := Init0T.ofS_atoms (args := args) hpl L Y9 (fun w h => hw w (by simp [z_oa9, h]))
  obtain ⟨A, LA, hA, hAB⟩ := PassC.ofS_atoms (args := args) (s := s) hpl (X := cls) (Y := Y) (Bundle.fit_spec hcls).1 (Bundle.fit_spec hY).2 g0 g1 g2 g5 (fun w h => hw w (by simp [z_oa9, h]))
  obtain ⟨B, Bs, hlen, LB, LBs, hB, hB1, hB2⟩ := Bundle.chainS (args := args) hpl hZ names Y hY hnames (fun w h => hw w (by simp [z_oa9, h]))
  have hLs : ∀ P, P ∈ A :: B :: Bs → P.LinksS e.platform s := List.forall_mem_cons.mpr ⟨LA, List.forall_mem_cons.mpr ⟨LB, LBs⟩⟩
  have hcA : cX = A.m.cls := Option.some.inj (hcX.symm.trans (findClass_of_methodNamed hA))
  subst hcA
  obtain ⟨c1, k1, i1, i2, ho, -⟩ := Cond.instantiable_spec (show (Cond.instantiable cls 6).holds args s none s [] = true from hw _ (by simp [z_oa9, zx_own]))
  have e1 := Option.some.inj (i1.symm.trans hcX)
  subst e1
  have e2 := Option.some.inj (i2.symm.trans hkX)
  subst e2
  -- the statics of Throwable
  obtain ⟨x0, hx0, hst⟩ := Y9.statics
  obtain ⟨x1, hx1, hkn, hx⟩ := zx_stat X hx0 hst
  obtain ⟨u0, hu0⟩ := Cond.staticRefV Y9.unassigned L.unassignedStatic L.statics hx0 hst (show (Cond.isRef (.static Bundle.tN "UNASSIGNED_STACK" Bundle.steD)).holds args s none s [] = true from hw _ (by simp [z_oa9, zx_off]))
  obtain ⟨sn, hsn⟩ := Cond.staticRefV Y9.sentinel L.sentinelStatic L.statics hx0 hst (show (Cond.isRef (.static Bundle.tN "SUPPRESSED_SENTINEL" Bundle.listD)).holds args s none s [] = true from hw _ (by simp [z_oa9, zx_off]))
  -- the fields of the new object
  obtain ⟨iM, hM⟩ := Y9.msg
  obtain ⟨b1, b2, fB, b3, b4, b5, b6, -, b7, b8, b9⟩ := Cond.ownField (t := .object "java/lang/Object") Y9.found L.cls (by decide +kernel) (show (Cond.fieldLink Bundle.tN 198 Bundle.tN "backtrace" "Ljava/lang/Object;").holds args s none s [] = true from hw _ (by simp [z_oa9, zx_off])) (show (Cond.lays Bundle.tN Bundle.tN "backtrace" "Ljava/lang/Object;").holds args s none s [] = true from hw _ (by simp [z_oa9, zx_off])) e.platform hpl
  obtain ⟨tC, -, nC⟩ := zx_laid hcX hkX ho Y9.cause (hw _ (by simp [z_oa9, zx_own]))
  obtain ⟨tS, -, nS⟩ := zx_laid hcX hkX ho Y9.stack (hw _ (by simp [z_oa9, zx_own]))
  obtain ⟨tP, -, nP⟩ := zx_laid hcX hkX ho Y9.supp (hw _ (by simp [z_oa9, zx_own]))
  obtain ⟨tM, -, -⟩ := zx_laid hcX hkX ho hM (hw _ (by simp [z_oa9, zx_own]))
  obtain ⟨-, vB, nB⟩ := zx_laid hcX hkX ho b9 (hw _ (by simp [z_oa9, zx_own]))
  rw [b8] at vB
  have aC := (zx_apart nB nC (by rw [b7, Y9.causeName]; decide)).symm
  have aS := (zx_apart nB nS (by rw [b7, Y9.stackName]; decide)).symm
  have aP := (zx_apart nB nP (by rw [b7, Y9.suppName]; decide)).symm
  have hskip : SkipFacts T e.platform s (fun u => u) u0 ((preparedCellV T.toThrowableT (freshCell A.m.cls k1) a u0 sn).withEntry W.cur) := by
    refine ⟨⟨b1, b2, fB⟩, ⟨b3, b4, b5, b6⟩, ?_, fun _ _ => rfl⟩
    show ((((freshCell A.m.cls k1).slots.setIfInBounds T.fCause.slot _).setIfInBounds T.fStack.slot _).setIfInBounds T.fSupp.slot _)[fB.slot]? = some .null
    rw [Array.getElem?_setIfInBounds, if_neg aP, Array.getElem?_setIfInBounds, if_neg aS, Array.getElem?_setIfInBounds, if_neg aC]
    exact vB
  -- the call of the constructor, what it does, the throw
  obtain ⟨tm, mC, dC, kC, vm1, hn, -, -, -, -, -, -, -, hW1, st1⟩ := Steps.initColdS (tb := p.tables) (e := e) (below := below) (s := s) (U := W) X.here hexec X.warmed hpl hown (t := Bundle.initS cls) rfl rfl (Bundle.fit_spec hcls).2 (hw _ (by simp [z_oa9, zx_own])) (hw _ (by simp [z_oa9, Bundle.passSAtoms])) (bytes := by9) (maxL := 2) (hw _ (by simp [z_oa9, Bundle.passSAtoms])) (f := { method := m, pc := q, locals := ls, stack := msg :: .ref a :: .ref a :: rest, locked := none }) rfl (a := a) (msg := msg) (rest := .ref a :: rest) rfl d7
  have e3 := Option.some.inj (hn.symm.trans hA)
  subst e3
  have hsum : (List.map (fun v : Value => v.category) (Value.ref a :: rest)).sum = 1 + (rest.map fun v => v.category).sum := by rw [List.map_cons, List.sum_cons]; rfl
  obtain ⟨vm2, X2, st2⟩ := (X.noted hW1).ctorMessageOffV hexec (g := { method := m, pc := q, locals := ls, stack := .ref a :: rest, locked := none }) rfl hls T L Z LZ M LM (A :: B :: Bs) hLs ⟨Option.some.inj (hAB.symm.trans hB), hB1, hB2⟩ (u0 := u0) (sen := sn) (self := a) hmsg (cell := freshCell A.m.cls k1) (cellS := x1) hcell (fun _ => by simp) (by simp) rfl rfl
    (zx_sel X hcX (by decide) Y9.fill0 (hw _ (by simp [z_oa9, zx_own]))) (zx_sel X hcX (by decide) Y9.fill (hw _ (by simp [z_oa9, zx_own]))) hx1 (Nat.ne_of_lt (Nat.lt_of_lt_of_le (Array.getElem?_eq_some_iff.mp hx0).1 hnew)) hkn ((hx _).trans hu0) ((hx _).trans hsn)
    (tC _ (by rw [Y9.causeType]; rfl)) (tS _ (by rw [Y9.stackType]; exact fits_refV_array _ u0)) (tP _ (by rw [Y9.suppType]; exact fits_refV_object _ sn)) (tM _ (by rw [Y9.msgType]; exact fits_refV_object _ ⟨msg, hmsg⟩)) Y9.objLocals hskip htr [] d7
    (by rw [List.length_cons, List.length_cons, hlen]; omega) (by rw [List.length_cons, List.length_cons, hlen, hsum]; show 2 * 0 + _ + _ ≤ _; omega)
  obtain ⟨h1, h2, h3, h4, h5⟩ := X2.athrowLeaves hexec (g := { method := m, pc := q + 3, locals := ls, stack := .ref a :: rest, locked := none }) rfl rfl rfl hout (a := a) (rest := rest) rfl d10 hlocks
  refine ⟨_, st1 _ (fun acts => ?_), h2, h3, h4, h5.weaken (fun y hy hlt => ?_) (Nat.le_refl _) (Nat.le_refl _), _, heapAt_setCell_self (s := (W.setVm vm1).setVm vm2) (plainBareV T.toThrowableT (freshCell A.m.cls k1) a u0 sn msg) (Array.getElem?_eq_some_iff.mp hcell).1, rfl, hcX⟩
  · rw [doInvoke_state]
    exact st2 _ h1
  · have hb : y.base = a := by
      rw [List.nil_append] at hy
      simp only [List.mem_cons, List.not_mem_nil, or_false] at hy
      rcases hy with rfl | rfl | rfl | rfl | rfl <;> rfl
    rw [hb] at hlt
    exact absurd hlt (Nat.not_lt.mpr hnew)
end
