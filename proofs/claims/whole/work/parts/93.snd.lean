/-! ===== a run of the small machine is the real machine's ===== -/
def z_FinX (p : Program) (l : Launch) (e : Env) (R : Room) (s : State) (m : MethodId) (args : Array Value) (below : List Frame) (meth : Method) (c : Code) (Q : State → Prop) (z : Nat) (ad : Nat → Nat) (ka : Nat → ClassId) (D : va_G) (mi CT ST : Nat) (E : Nat) (G1 : zG) (M1 : zM) : Prop :=
  (∀ (H1 : Heap) (locs1 : List Loc) (arr1 : Array Slot) (pc1 cells1 slots1 b cp : Nat) (G0 : zG), arr1.size = z_mxl mi → z_opB mi (83, E, b, cp, pc1) = true → z_thr G0 = G1 → z_Rel z ad ka D G0 M1 H1 → va_S (z_A z) s.heap H1 locs1 → cells1 + 1 = CT → slots1 + 6 = ST → W p l e R s m args below meth c H1 locs1 cells1 slots1 Q (F0 m pc1 arr1 [])) ∧
  (∀ (H1 : Heap) (locs1 : List Loc) (arr1 : Array Slot) (pc1 : Nat) (st1 : List Value) (q : Addr) (ce : Cell), z_Rel z ad ka D G1 M1 H1 → va_S (z_A z) s.heap H1 locs1 → H1[q]? = some ce → ce.vm = .none → s.vm.findClass (z_en E) = some ce.cls → vx_W p l e R s m args below meth c H1 locs1 CT ST Q (F0 m pc1 arr1 st1) q)
def z_Fin (p : Program) (l : Launch) (e : Env) (R : Room) (s : State) (m : MethodId) (args : Array Value) (below : List Frame) (meth : Method) (c : Code) (Q : State → Prop) (z : Nat) (ad : Nat → Nat) (ka : Nat → ClassId) (D : va_G) (mi CT ST : Nat) (o : zQ) (G1 : zG) (M1 : zM) : Prop := match o with
  | .inl r => z_FinR p l e R s m args below meth c Q z ad ka D mi CT ST r G1 M1
  | .inr E => z_FinX p l e R s m args below meth c Q z ad ka D mi CT ST E G1 M1
def z_BodyX (l : Launch) (Iv : State → Heap → Prop) (z : Nat) (ad : Nat → Nat) (ka : Nat → ClassId) (D : va_G) (f : Nat) (av : List Value) (G : zG) (M : zM) (E : Nat) (G1 : zG) (M1 : zM) : Prop :=
  ∀ (p : Program) (e : Env) (R : Room) (s : State) (m : MethodId) (args : Array Value) (below : List Frame) (meth : Method) (c : Code) (Q : State → Prop) (arr : Array Slot) (CT ST : Nat), z_Ctx z ad ka D f p R s m args meth c → Iv s s.heap → z_loc ad arr (z_ent f av) → z_Rel z ad ka D G M s.heap → z_Ext z ad s s.heap G M → s.heap.size ≤ z + z_nc G → CT + z_nc G = z_nc G1 → ST + z_ns G = z_ns G1 → CT ≤ R.cells → ST ≤ R.slots → c.exceptionTable.toList = tableOf (z_hh f) → z_FinX p l e R s m args below meth c Q z ad ka D f CT ST E G1 M1 → W p l e R s m args below meth c s.heap [] 0 0 Q (F0 m 0 arr [])
/-- the operations that ask more of the start (owed) -/
def z_SpOK (l : Launch) (Iv : State → Heap → Prop) (z : Nat) (ad : Nat → Nat) (ka : Nat → ClassId) (D : va_G) : Prop := ∀ (p : Program) (e : Env) (R : Room) (s : State) (m : MethodId) (args : Array Value) (below : List Frame) (meth : Method) (c : Code) (H : Heap) (locs : List Loc) (cells slots : Nat) (Q : State → Prop) (mi o a b cp pc : Nat) (ls st : List Value) (G : zG) (M : zM) (L : Option Nat) (ls' st' : List Value) (G1 : zG) (M1 : zM) (arr : Array Slot), z_sp o → z_Ctx z ad ka D mi p R s m args meth c → Iv s s.heap → z_loc ad arr ls → z_Rel z ad ka D G M H → z_Ext z ad s s.heap G M → va_S (z_A z) s.heap H locs → ls.length = z_mxl mi → (cells ≤ R.cells ∧ slots ≤ R.slots) → s.heap.size + cells ≤ z + z_nc G → (cells + z_nc G1 ≤ R.cells + z_nc G ∧ slots + z_ns G1 ≤ R.slots + z_ns G) → z_opB mi (o, a, b, cp, pc) = true → z_step o a b ls st G M = some (.inl (L, ls', st', G1, M1)) → (L = none → z_go1 p l e R s m args below meth c Q z ad ka D G cells slots (pc + (z_ins (o, a, b, cp, pc)).2) ls' st' G1 M1) → W p l e R s m args below meth c H locs cells slots Q (F0 m pc arr (st.map (z_cv ad)))
/-- an exception that is caught (owed) -/
def z_HdOK (l : Launch) (Iv : State → Heap → Prop) (z : Nat) (ad : Nat → Nat) (ka : Nat → ClassId) (D : va_G) : Prop := ∀ (p : Program) (e : Env) (R : Room) (s : State) (m : MethodId) (args : Array Value) (below : List Frame) (meth : Method) (c : Code) (H1 : Heap) (locs1 : List Loc) (cells slots : Nat) (Q : State → Prop) (mi f n cp pc E t k : Nat) (ls ls2 st1 : List Value) (arr : Array Slot) (q : Addr) (ce : Cell), z_hd mi E = some (t, k) → z_put ls k .null = some ls2 → z_Ctx z ad ka D mi p R s m args meth c → Iv s s.heap → c.exceptionTable.toList = tableOf (z_hh mi) → z_opB mi (64, f, n, cp, pc) = true → z_loc ad arr ls → ls.length = z_mxl mi → H1[q]? = some ce → ce.vm = .none → s.vm.findClass (z_en E) = some ce.cls → (∀ arr2 : Array Slot, z_loc ad arr2 ls2 → W p l e R s m args below meth c H1 locs1 cells slots Q (F0 m t arr2 [])) → vx_W p l e R s m args below meth c H1 locs1 cells slots Q (F0 m pc arr st1) q
/-- a method that throws (owed) -/
def z_TxOK (l : Launch) (Iv : State → Heap → Prop) (z : Nat) (ad : Nat → Nat) (ka : Nat → ClassId) (D : va_G) : Prop := ∀ (f : Nat) (av : List Value) (G : zG) (M : zM) (E : Nat) (G1 : zG) (M1 : zM), plainName (z_y f).cls = true → zz_on (z_ow f) = (z_y f).cls → av.length ≤ z_mxl f → z_cat av ≤ av.length → z_nc G ≤ z_nc G1 → z_ns G ≤ z_ns G1 → z_hh f = [] → z_BodyX l Iv z ad ka D f av G M E G1 M1 → z_Mt l Iv z ad ka D (.code (z_y f) (zz_cd f) (z_mxl f) (z_rt f)) f av G M (.inr E) G1 M1
theorem z_stepE {o a b : Nat} {ls st : List Value} {G : zG} {M : zM} {ls' st' : List Value} {G1 : zG} {M1 : zM} (h : z_step o a b ls st G M = some (.inl (none, ls', st', G1, M1))) : z_end o = false := by
  unfold z_step at h
  split at h
  all_goals first
    | rfl
    | (cases h; done)
    | (split at h <;> first | (cases h; done) | (split at h <;> first | (cases h; done) | (split at h <;> (cases h; done))))
theorem z_stepDn {o a b : Nat} {ls st : List Value} {G : zG} {M : zM} {d : zD} (h : z_step o a b ls st G M = some (.inr (.inl d))) : (o = 69 ∧ st = [] ∧ d = (.inl none, G, M)) ∨ (o = 70 ∧ ∃ x : Int32, st = [.int x] ∧ d = (.inl (some (.int x)), G, M)) ∨ (o = 71 ∧ ∃ x : Int64, st = [.long x] ∧ d = (.inl (some (.long x)), G, M)) ∨ (o = 72 ∧ ∃ x : Int32, (x = 0 ∨ x = 1) ∧ st = [.int x] ∧ d = (.inl (some (.int x)), G, M)) ∨ (o = 83 ∧ st = [] ∧ d = (.inr a, z_thr G, M)) := by
  unfold z_step at h
  split at h
  all_goals first
    | (cases h; done)
    | (split at h <;> first | (cases h; done) | (cases h; exact Or.inl ⟨rfl, rfl, rfl⟩) | (cases h; exact Or.inr (Or.inl ⟨rfl, _, rfl, rfl⟩)) | (cases h; exact Or.inr (Or.inr (Or.inl ⟨rfl, _, rfl, rfl⟩))) | (cases h; exact Or.inr (Or.inr (Or.inr (Or.inr ⟨rfl, rfl, rfl⟩)))) | (split at h <;> first | (cases h; done) | (rename_i hc; cases h; exact Or.inr (Or.inr (Or.inr (Or.inl ⟨rfl, _, hc, rfl, rfl⟩)))) | (split at h <;> (cases h; done))))
    | (simp only [Option.map_eq_some_iff] at h; obtain ⟨q, -, hq⟩ := h; cases hq; done)
theorem z_stepC {o a b : Nat} {ls st : List Value} {G : zG} {M : zM} {f : Nat} {av rest : List Value} (h : z_step o a b ls st G M = some (.inr (.inr (f, av, rest)))) : f = a ∧ z_cg o a b st G = some (av, rest) ∧ (o = 63 ∨ o = 64 ∨ o = 65 ∨ o = 66 ∨ o = 67) := by
  unfold z_step at h
  split at h
  all_goals first
    | (cases h; done)
    | (split at h <;> first | (cases h; done) | (split at h <;> first | (cases h; done) | (split at h <;> (cases h; done))))
    | (rw [Option.map_eq_some_iff] at h; obtain ⟨⟨q1, q2⟩, h1, h2⟩ := h; cases h2; exact ⟨rfl, h1, by decide⟩)
