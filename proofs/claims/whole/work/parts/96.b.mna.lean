/-! ===== an array of arrays of ints is made: the machine's own making of it, with the heap in closed form ===== -/
def zm_in (comp : ClassId) (K : Nat) : Cell := { cls := comp, slots := Array.replicate K (.int 0), vm := .none }
def zm_out (c : ClassId) (N h i : Nat) : Cell := arrV c N (fun j => va_rf (if j < i then some (h + 1 + j) else none))
/-- the heap A with an array of N places behind it, of which i are filled, and the i rows -/
def zm_H (A : Heap) (c comp : ClassId) (N K i : Nat) : Heap := A.push (zm_out c N A.size i) ++ Array.replicate i (zm_in comp K)
def zm_S (T : State) (c comp : ClassId) (N K i : Nat) : State := { T with heap := zm_H T.heap c comp N K i, slotsUsed := T.slotsUsed + N + i * K }
theorem zm_out_0 (c : ClassId) (N h : Nat) : zm_out c N h 0 = { cls := c, slots := Array.replicate N .null, vm := .none } := by
  rw [arrV_new]
  exact congrArg (arrV c N) (funext fun j => by rw [if_neg (Nat.not_lt_zero j)]; rfl)
theorem zm_out_s (c : ClassId) (N h i : Nat) : (zm_out c N h i).setSlot i (.ref (h + 1 + i)) = zm_out c N h (i + 1) := by
  unfold zm_out
  rw [arrV_store]
  refine congrArg (arrV c N) (funext fun j => ?_)
  unfold updV
  rcases Nat.lt_trichotomy j i with e | e | e
  · rw [if_neg (Nat.ne_of_lt e)]
    dsimp only
    rw [if_pos e, if_pos (Nat.lt_succ_of_lt e)]
  · subst e
    rw [if_pos rfl, if_pos (Nat.lt_succ_self j)]
    rfl
  · rw [if_neg (Nat.ne_of_gt e)]
    dsimp only
    rw [if_neg (Nat.lt_asymm e), if_neg (by omega)]
theorem zm_H_size (A : Heap) (c comp : ClassId) (N K i : Nat) : (zm_H A c comp N K i).size = A.size + 1 + i := by
  unfold zm_H
  rw [Array.size_append, Array.size_push, Array.size_replicate]
theorem zm_H_old (A : Heap) (c comp : ClassId) (N K i : Nat) {q : Nat} (hq : q < A.size) : (zm_H A c comp N K i)[q]? = A[q]? := by
  unfold zm_H
  rw [Array.getElem?_append_left (by rw [Array.size_push]; omega), Array.getElem?_push, if_neg (Nat.ne_of_lt hq)]
theorem zm_H_out (A : Heap) (c comp : ClassId) (N K i : Nat) : (zm_H A c comp N K i)[A.size]? = some (zm_out c N A.size i) := by
  unfold zm_H
  rw [Array.getElem?_append_left (by rw [Array.size_push]; omega), Array.getElem?_push, if_pos rfl]
theorem zm_H_in (A : Heap) (c comp : ClassId) (N K i : Nat) {j : Nat} (hj : j < i) : (zm_H A c comp N K i)[A.size + 1 + j]? = some (zm_in comp K) := by
  unfold zm_H
  rw [Array.getElem?_append_right (by rw [Array.size_push]; omega), Array.size_push, Array.getElem?_replicate, if_pos (by omega)]
theorem zm_H_s (A : Heap) (c comp : ClassId) (N K i : Nat) : ((zm_H A c comp N K i).push (zm_in comp K)).setIfInBounds A.size (zm_out c N A.size (i + 1)) = zm_H A c comp N K (i + 1) := by
  refine Array.ext_getElem? (fun q => ?_)
  have h1 := zm_H_size A c comp N K i
  have h2 := zm_H_size A c comp N K (i + 1)
  rw [Array.getElem?_setIfInBounds, Array.size_push, h1]
  rcases Nat.lt_trichotomy q A.size with e | e | e
  · rw [if_neg (Nat.ne_of_gt e), Array.getElem?_push, h1, if_neg (by omega), zm_H_old A c comp N K i e, zm_H_old A c comp N K (i + 1) e]
  · subst e
    rw [if_pos rfl, if_pos (by omega), zm_H_out]
  · obtain ⟨j, rfl⟩ : ∃ j, q = A.size + 1 + j := ⟨q - A.size - 1, by omega⟩
    rw [if_neg (by omega), Array.getElem?_push, h1]
    rcases Nat.lt_trichotomy j i with f | f | f
    · rw [if_neg (by omega), zm_H_in A c comp N K i f, zm_H_in A c comp N K (i + 1) (by omega)]
    · rw [if_pos (by omega), zm_H_in A c comp N K (i + 1) (by omega)]
    · rw [if_neg (by omega), Array.getElem?_eq_none (by omega), Array.getElem?_eq_none (by omega)]
theorem zm_S_0 (T : State) (c comp : ClassId) (N K : Nat) : zm_S T c comp N K 0 = T.pushCell { cls := c, slots := Array.replicate N .null, vm := .none } := by
  unfold zm_S zm_H
  rw [zm_out_0]
  simp [State.pushCell]
theorem zm_S_s (T : State) (c comp : ClassId) (N K i : Nat) : ((zm_S T c comp N K i).pushCell (zm_in comp K)).setCell T.heap.size (zm_out c N T.heap.size (i + 1)) = zm_S T c comp N K (i + 1) := by
  have e : T.slotsUsed + N + i * K + (zm_in comp K).slots.size = T.slotsUsed + N + (i + 1) * K := by
    rw [show (zm_in comp K).slots.size = K from Array.size_replicate, Nat.succ_mul]
    omega
  show ({ T with heap := ((zm_H T.heap c comp N K i).push (zm_in comp K)).setIfInBounds T.heap.size (zm_out c N T.heap.size (i + 1)), slotsUsed := T.slotsUsed + N + i * K + (zm_in comp K).slots.size } : State) = _
  rw [zm_H_s, e]
  rfl
section
variable {E : CtlPost} {e : Env} {S : State}
/-- one array is made, all alike within it -/
theorem zm_new {d : Bool} {acts : List Action} {c comp : ClassId} {k : Class} {ty : FieldType} {n : Nat} {x : Value} (hk : S.vm.classes[c]? = some k) (hkind : k.kind = .array comp ty) (h1 : ¬ n > e.platform.arrayLengthLimit) (h2 : ¬ n * componentBytes ty > e.platform.maxHeapBytes)
    (hfit : fits ty x = true) (hdef : x.isDefault = true) (hc : S.heap.size < e.platform.maxCells) (hs : S.slotsUsed + n ≤ e.platform.maxSlots) {Q : Addr → Pre}
    (hq : Q S.heap.size d acts (S.pushCell { cls := c, slots := Array.replicate n x, vm := .none })) : wp (Jvm.newArray c n x) Q E e d acts S := by
  have hf : ∀ i v, (Array.replicate n x)[i]? = some v → S.fitsSlot c .none i v = true := by
    intro i v hv
    rw [Array.getElem?_replicate] at hv
    split at hv
    · cases hv
      simp [State.fitsSlot, State.slotType?, hk, hkind, hfit]
    · cases hv
  have ha : allocActs (Array.replicate n x) S.heap.size acts = acts := by
    unfold allocActs
    rw [if_pos (by rw [Array.all_replicate]; split <;> simp [hdef])]
  simp only [Jvm.newArray, Jvm.arrayFits, wp_bind', wp_pure', W.ask, W.ite, W.theClass, W.alloc, W.stop, h1, h2, if_false, hk, hkind, Option.some.injEq, exists_eq_left', Array.size_replicate, ha]
  rw [if_neg (by omega)]
  exact ⟨hc, hs, hf, hq⟩
/-- a loop over the numbers below N, each of which fills one place more -/
theorem zm_loop {cA comp : ClassId} {N K : Nat} (f : Nat → PUnit → Sem (ForInStep PUnit)) (hf : ∀ i d acts (P : ForInStep PUnit → Pre), i < N → (∀ d' acts', P (.yield PUnit.unit) d' acts' (zm_S S cA comp N K (i + 1))) → wp (f i PUnit.unit) P E e d acts (zm_S S cA comp N K i)) {Q : PUnit → Pre} (hq : ∀ d acts, Q PUnit.unit d acts (zm_S S cA comp N K N)) : ∀ (r i : Nat) (d : Bool) (acts : List Action), i + r = N → wp (forIn (List.range' i r 1) PUnit.unit f) Q E e d acts (zm_S S cA comp N K i)
  | 0, i, d, acts, h => by
    have hi : i = N := h
    subst hi
    rw [List.range'_zero, List.forIn_nil, wp_pure']
    exact hq d acts
  | r + 1, i, d, acts, h => by
    rw [List.range'_succ, List.forIn_cons, wp_bind']
    exact hf i d acts _ (by omega) (fun d' acts' => zm_loop f hf hq r (i + 1) d' acts' (by omega))
theorem zm_make {d : Bool} {acts : List Action} {cA comp cc : ClassId} {kA kC : Class} {n k : Int32} {N K : Nat} (hN : n.toNatClampNeg = N) (hK : k.toNatClampNeg = K) (hkA : S.vm.classes[cA]? = some kA) (hA : kA.kind = .array comp (.array .int)) (hkC : S.vm.classes[comp]? = some kC) (hC : kC.kind = .array cc .int) (hn : ¬ n < 0) (hk : ¬ k < 0)
    (hl1 : ¬ N > e.platform.arrayLengthLimit) (hl2 : ¬ K > e.platform.arrayLengthLimit) (hb1 : ¬ N * componentBytes (.array .int) > e.platform.maxHeapBytes) (hb2 : ¬ K * componentBytes .int > e.platform.maxHeapBytes) (hc : S.heap.size + 1 + N ≤ e.platform.maxCells) (hs : S.slotsUsed + N + N * K ≤ e.platform.maxSlots)
    {Q : Addr → Pre} (hq : ∀ d acts, Q S.heap.size d acts (zm_S S cA comp N K N)) : wp (multianewarray.make cA [n, k]) Q E e d acts S := by
  have h0 : S.slotsUsed + N ≤ e.platform.maxSlots := Nat.le_trans (Nat.le_add_right _ _) hs
  have hnone : List.find? (fun x => decide (x < 0)) [k] = none := by simp [hk]
  rw [multianewarray.make]
  simp only [wp_bind', W.ite, hn, if_false, wp_pure', W.theClass, hkA, hA, Option.some.injEq, exists_eq_left', hN]
  refine zm_new hkA hA hl1 hb1 rfl rfl (by omega) h0 ?_
  rw [← zm_S_0 S cA comp N K]
  simp only [hnone]
  rw [ite_self, wp_bind', Std.Legacy.Range.forIn_eq_forIn_range']
  rw [show ([:N] : Std.Legacy.Range).size = N by simp [Std.Legacy.Range.size]]
  refine zm_loop (N := N) (K := K) _ (fun i d1 acts1 P hi hP => ?_) (fun d1 acts1 => ?_) N 0 _ _ (Nat.zero_add N)
  · have hi1 : (i + 1) * K ≤ N * K := Nat.mul_le_mul_right K hi
    rw [Nat.succ_mul] at hi1
    have z1 : (zm_S S cA comp N K i).heap.size = S.heap.size + 1 + i := zm_H_size _ _ _ _ _ _
    have z2 : (zm_S S cA comp N K i).slotsUsed = S.slotsUsed + N + i * K := rfl
    have z0 : S.heap.size < (zm_S S cA comp N K i).heap.size := by rw [z1]; omega
    have z3 : ((zm_S S cA comp N K i).pushCell (zm_in comp K)).heap[S.heap.size]? = some (zm_out cA N S.heap.size i) := by
      rw [State.heap_pushCell_of_lt (h := z0)]
      exact zm_H_out _ _ _ _ _ _
    rw [wp_bind', multianewarray.make]
    simp only [wp_bind', W.ite, hk, if_false, wp_pure', W.theClass, show (zm_S S cA comp N K i).vm.classes[comp]? = some kC from hkC, hC, Option.some.injEq, exists_eq_left', hK]
    refine zm_new (S := zm_S S cA comp N K i) hkC hC hl2 hb2 rfl rfl (by rw [z1]; omega) (by rw [z2]; omega) ?_
    simp only [wp_bind', W.writeLoc, wp_pure']
    refine ⟨zm_out cA N S.heap.size i, z3, by rw [show (zm_out cA N S.heap.size i).vm = .none from rfl]; simp, ?_, ?_, ?_⟩
    · rw [show (zm_out cA N S.heap.size i).slots.size = N from arrV_size _ _ _]
      exact hi
    · show State.fitsSlot _ cA .none i _ = true
      simp [State.fitsSlot, State.slotType?, zm_S, hkA, hA, fits]
    · rw [z1, zm_out_s]
      have := zm_S_s S cA comp N K i
      rw [show ({ cls := comp, slots := Array.replicate K (defaultValue .int), vm := .none } : Cell) = zm_in comp K from rfl, this]
      exact hP _ _
  · rw [wp_pure']
    exact hq d1 acts1
end
section
variable {p : Program} {l : Launch} {e : Env} {R : Room} {s : State} {m : MethodId} {args : Array Value} {below : List Frame} {meth : Method} {c : Code} {T : State} {locs : List Loc} {cells slots : Nat}
theorem zm_St (X : Stand p l e R s m args below meth c T locs cells slots) (cA comp : ClassId) (N K : Nat) : ∀ i, Stand p l e R s m args below meth c (zm_S T cA comp N K i) locs (cells + 1 + i) (slots + N + i * K)
  | 0 => by
    have h := X.pushed { cls := cA, slots := Array.replicate N .null, vm := .none }
    rw [← zm_S_0 T cA comp N K, Array.size_replicate] at h
    rw [Nat.zero_mul]
    exact h
  | i + 1 => by
    have z1 : (zm_S T cA comp N K i).heap.size = T.heap.size + 1 + i := zm_H_size _ _ _ _ _ _
    have z0 : T.heap.size < (zm_S T cA comp N K i).heap.size := by rw [z1]; omega
    have hc : ((zm_S T cA comp N K i).pushCell (zm_in comp K)).heap[T.heap.size]? = some (zm_out cA N T.heap.size i) := by
      rw [State.heap_pushCell_of_lt (h := z0)]
      exact zm_H_out _ _ _ _ _ _
    have h := ((zm_St X cA comp N K i).pushed (zm_in comp K)).stored hc i (.ref (T.heap.size + 1 + i))
    rw [zm_out_s, zm_S_s] at h
    have h2 := h.dropFresh (fun x hx => by rw [List.mem_singleton.mp hx]; exact X.heapGrown)
    rw [show (zm_in comp K).slots.size = K from Array.size_replicate] at h2
    rw [show slots + N + (i + 1) * K = slots + N + i * K + K by rw [Nat.succ_mul]; omega]
    exact h2
theorem zm_step (X : Stand p l e R s m args below meth c T locs cells slots) (hx : p.tables.exec = Jvm.exec) {own : String} {ix : Nat} (hown : s.vm.findClass own = some m.cls) (hl : (Cond.classLink own ix ("[" ++ (FieldType.array FieldType.int).toString)).before args s = true) (ho : (Cond.arrayOver (.array .int)).before args s = true) (ha : (Cond.arrayClass .int).before args s = true)
    {g : JFrame} (hg : g.method = m) (hd : decode c.code g.pc = .ok (.multianewarray ix 2, 4)) {n k : Int32} {N K : Nat} (hN : n.toNatClampNeg = N) (hK : k.toNatClampNeg = K) {rest : List Value} (hst : g.stack = .int k :: .int n :: rest) (hn : ¬ n < 0) (hk : ¬ k < 0) (hn9 : N ≤ 100000) (hk9 : K ≤ 100000) (hcl : cells + (1 + N) ≤ R.cells) (hsl : slots + (N + N * K) ≤ R.slots) :
    ∃ (vm : Vm) (cA comp : ClassId), s.vm.findClass ("[" ++ (FieldType.array FieldType.int).toString) = some cA ∧ s.vm.findClass (FieldType.array FieldType.int).toString = some comp ∧ Stand p l e R s m args below meth c (zm_S (T.setVm vm) cA comp N K N) locs (cells + 1 + N) (slots + N + N * K) ∧
      ∀ t, Steps p.tables e below ((zm_S (T.setVm vm) cA comp N K N).setTop { g with pc := g.pc + 4, stack := .ref T.heap.size :: rest }) t → Steps p.tables e below (T.setTop g) t := by
  subst hg
  obtain ⟨comp, cA, kA, f1, -, f2, f3, f4⟩ := arrayOverA_spec ho
  obtain ⟨comp2, kC, cc, f5, f6, f7⟩ := Cond.arrayClass_spec ha
  have e1 : comp2 = comp := Option.some.inj (f5.symm.trans f1)
  subst e1
  obtain ⟨c0, f8, f9⟩ := Cond.classLink_spec hown hl e.platform (by rw [X.admits.platform])
  have e2 : c0 = cA := Option.some.inj (f8.symm.trans f4)
  subst e2
  obtain ⟨g1, g2, g3⟩ := State.classEntry (e := e) X.warmed f9
  generalize T.vm.noted g.method.cls ix (.cls c0) = vm at g1 g2 g3
  obtain ⟨kA1, a1, a2⟩ := g2.alike.2.2 _ _ f2
  obtain ⟨kC1, b1, b2⟩ := g2.alike.2.2 _ _ f6
  have X1 := X.noted g2
  have XF := zm_St X1 c0 comp2 N K N
  obtain ⟨r1, r2⟩ := X.roomAbove hcl hsl
  have l1 := Launch.admits_arrayLengthLimit X.admits
  have l2 := Launch.admits_maxHeapBytes X.admits
  refine ⟨vm, c0, comp2, f4, f1, XF, fun t ht => ?_⟩
  jvm_step X.here [hx, hd]
  simp only [multianewarray.sem, wp_bind', W.resolveClassAt_links (State.method?_setTop g X.here.top) g1]
  rw [W.popN, if_neg (by decide)]
  refine ⟨g, State.topJava?_setTop' (s := T.setVm vm) g X.here.top, [.int n, .int k], rest, rfl, hst, ?_⟩
  simp only [List.mapM_cons, List.mapM_nil, wp_bind', wp_pure']
  refine zm_make hN hK (kA := kA1) (kC := kC1) (comp := comp2) (cc := cc) a1 (by rw [a2]; exact f3) b1 (by rw [b2]; exact f7) hn hk (by rw [l1]; omega) (by rw [l1]; omega) (by rw [l2]; show ¬ N * 4 > 536870912; omega) (by rw [l2]; show ¬ K * 4 > 536870912; omega) (by show T.heap.size + 1 + N ≤ _; omega) (by show T.slotsUsed + N + N * K ≤ _; omega) (fun d acts => ?_)
  have e3 : ((T.setTop g).setVm vm).setTop { g with stack := rest } = (T.setVm vm).setTop { g with stack := rest } := by
    show ((T.setVm vm).setTop g).setTop _ = _
    rw [State.setTop_setTop]
  rw [e3, show zm_S ((T.setVm vm).setTop { g with stack := rest }) c0 comp2 N K N = (zm_S (T.setVm vm) c0 comp2 N K N).setTop { g with stack := rest } from rfl]
  simp only [wp_bind', W.mark, W.pushRef, State.topJava?_setTop' _ XF.here.top, Option.some.injEq, exists_eq_left', State.setTop_setTop, State.heap_setTop]
  intro acts2
  simp [jvm, XF.here.top]
  exact ht
end
section
variable {l : Launch} {z : Nat} {ad av sa : Nat → Nat} {ka : Nat → ClassId} {D : va_G}
variable {p : Program} {e : Env} {R : Room} {s : State} {m : MethodId} {args : Array Value} {below : List Frame} {meth : Method} {c : Code} {H : Heap} {locs : List Loc} {cells slots : Nat} {Q : State → Prop} {mi a b cp pc : Nat} {ls st : List Value} {G : zG} {M : zM} {L : Option Nat} {ls' st' : List Value} {G1 : zG} {M1 : zM} {arr : Array Slot}
theorem zs_77 (hi : z_Iv z ad av sa s s.heap) (C : z_Ctx z ad ka D mi p R s m args meth c) (hl : z_loc ad arr ls) (hR : z_Rel z ad ka D G M H) (hS : va_S (z_A z) s.heap H locs) (hcnt : s.heap.size + cells ≤ z + z_nc G) (hrm : cells + z_nc G1 ≤ R.cells + z_nc G ∧ slots + z_ns G1 ≤ R.slots + z_ns G) (hB : z_opB mi (77, a, b, cp, pc) = true) (hs : z_step 77 a b ls st G M = some (.inl (L, ls', st', G1, M1))) (kN : L = none → z_go1 p l e R s m args below meth c Q z ad ka D G cells slots (pc + (z_ins (77, a, b, cp, pc)).2) ls' st' G1 M1) : W p l e R s m args below meth c H locs cells slots Q (F0 m pc arr (st.map (z_cv ad))) := by
  obtain ⟨hd, ht⟩ := z_opD (by decide) (by decide) (by decide) hB
  obtain ⟨hx, hb, hml, hrt, hown, hts, hlk, hfr, hlo, hK, hz, hnm, had, hon⟩ := C
  simp only [z_step] at hs
  split at hs
  · rename_i k n r
    split at hs
    · rename_i hc
      cases hs
      have kk := kN rfl
      refine z_size (fun hsz => ?_)
      have hsz2 : H.size = z + (z_np G - 32) := by have := hR.size (Nat.le_trans hz hS.1); omega
      obtain ⟨N, hN⟩ : ∃ N, n.toNatClampNeg = N := ⟨_, rfl⟩
      obtain ⟨K, hKk⟩ : ∃ K, k.toNatClampNeg = K := ⟨_, rfl⟩
      rw [hN, hKk] at kk hrm hc
      have e1c : z_nc (z_new2 G N K) = z_nc G + (1 + N) := rfl
      have e1s : z_ns (z_new2 G N K) = z_ns G + (N + N * K) := rfl
      rw [e1c, e1s] at hrm
      intro T hT Xs
      obtain ⟨vm₁, cA, comp, fA, fC, X', step⟩ := zm_step Xs hx hown (hts _ (z_tw_ok _ (of_decide_eq_true ht))) (z_AOA.use hi.1.2.2.2.2.1.2.2) (hts _ z_w_ia) (g := F0 m pc arr (.int k :: .int n :: r.map (z_cv ad))) rfl (by rw [hb]; exact hd) hN hKk rfl hc.2.1.1 hc.2.2.1 hc.2.1.2 hc.2.2.2 (by omega) (by omega)
      have k1 : ka 1 = comp := Option.some.inj ((hK.2 0 _ rfl).2.symm.trans fC)
      have k5 : ka 5 = cA := Option.some.inj ((hK.2 4 _ rfl).2.symm.trans fA)
      have hTh : (T.setVm vm₁).heap = H := hT
      obtain ⟨F, hF⟩ : ∃ F, zm_S (T.setVm vm₁) cA comp N K N = F := ⟨_, rfl⟩
      rw [hF] at X' step
      have hFh : F.heap = zm_H H cA comp N K N := by rw [← hF, ← hTh]; rfl
      have f1 : F.heap.size = H.size + 1 + N := by rw [hFh]; exact zm_H_size _ _ _ _ _ _
      have f2 : F.heap[H.size]? = some (zm_out cA N H.size N) := by rw [hFh]; exact zm_H_out _ _ _ _ _ _
      have hold : ∀ x : Nat, x < H.size → F.heap[x]? = H[x]? := fun x hx => by rw [hFh]; exact zm_H_old _ _ _ _ _ _ hx
      have hrow : ∀ j : Nat, j < N → F.heap[H.size + 1 + j]? = some (zm_in comp K) := fun j hj => by rw [hFh]; exact zm_H_in _ _ _ _ _ _ hj
      unfold zm_out at f2
      have hR1 : z_Rel z ad ka D (z_new2 G N K) (z_new2M G N M) F.heap := by
        obtain ⟨r1, r2, r3, r4⟩ := id hR
        have hP0 : va_P D z_cl (z_ws z ad ka G M) F.heap := r1.kept (fun k9 x hx => hold x.1 ((r1 k9 x hx).lt))
        have e9 : z_np (z_new2 G N K) = z_np G + (1 + N) := rfl
        have kdE : ∀ q, z_kd (z_new2 G N K) q = if q = z_np G then (5, N) else if z_np G < q ∧ q ≤ z_np G + N then (1, K) else z_kd G q := fun _ => rfl
        have rfE : ∀ q, z_rf (z_new2 G N K) q = if q = z_np G then (fun j => if j < N then z_np G + 1 + j else 0) else if z_np G < q ∧ q ≤ z_np G + N then (fun _ => 0) else z_rf G q := fun _ => rfl
        have lgE : ∀ q, z_lg (z_new2 G N K) q = if z_np G ≤ q ∧ q ≤ z_np G + N then (fun _ => 0) else z_lg G q := fun _ => rfl
        have mE : ∀ q, z_new2M G N M q = if z_np G ≤ q ∧ q ≤ z_np G + N then (fun _ => 0) else M q := fun _ => rfl
        refine ⟨fun k9 q hq => ?_, by rw [e9]; omega, by rw [e9, e1c]; omega, fun q hq => ?_⟩
        · obtain ⟨l9, rfl⟩ := z_ws_at hq
          rw [e9] at l9
          by_cases c1 : 32 + k9 < z_np G
          · have hc9 : z_cell ad ka (z_new2 G N K) (z_new2M G N M) (32 + k9) = z_cell ad ka G M (32 + k9) := by
              have u1 : z_kd (z_new2 G N K) (32 + k9) = z_kd G (32 + k9) := by rw [kdE, if_neg (by omega), if_neg (by omega)]
              have u2 : z_rf (z_new2 G N K) (32 + k9) = z_rf G (32 + k9) := by rw [rfE, if_neg (by omega), if_neg (by omega)]
              have u3 : z_lg (z_new2 G N K) (32 + k9) = z_lg G (32 + k9) := by rw [lgE, if_neg (by omega)]
              have u4 : z_new2M G N M (32 + k9) = M (32 + k9) := by rw [mE, if_neg (by omega)]
              unfold z_cell
              rw [u1, u2, u3, u4]
            have g := z_ws_get (z := z) (ad := ad) (ka := ka) (G := G) (M := M) (q := 32 + k9) (by omega) c1
            rw [show 32 + k9 - 32 = k9 by omega] at g
            rw [hc9]
            exact hP0 k9 _ g
          · by_cases c2 : 32 + k9 = z_np G
            · have hk1 : z_kd (z_new2 G N K) (32 + k9) = (5, N) := by rw [kdE, if_pos c2]
              rw [z_cell_ref (by rw [hk1]; omega), hk1, rfE, if_pos c2, k5, show z + k9 = H.size by omega]
              refine f2.trans (congrArg some ?_)
              dsimp only
              rw [vp_cell_q]
              refine congrArg (arrV cA N) (funext fun j => ?_)
              show va_rf (if j < N then some (H.size + 1 + j) else none) = va_rf (z_ro ad (if j < N then z_np G + 1 + j else 0))
              unfold z_ro
              by_cases hj : j < N
              · rw [if_pos hj, if_pos hj, if_neg (by omega), had _ (by omega), show z + (z_np G + 1 + j - 32) = H.size + 1 + j by omega]
              · rw [if_neg hj, if_neg hj, if_pos rfl]
            · have hk1 : z_kd (z_new2 G N K) (32 + k9) = (1, K) := by rw [kdE, if_neg c2, if_pos (by omega)]
              rw [z_cell_int (by rw [hk1]), hk1, mE, if_pos (by omega), k1, show z + k9 = H.size + 1 + (k9 - (H.size - z) - 1) by omega]
              exact (hrow (k9 - (H.size - z) - 1) (by omega)).trans (congrArg some (by first | rfl | exact arrV_new _ _ _ | (unfold zm_in; rw [← arrI_new]; rfl)))
        · rw [kdE, if_neg (by rw [e9] at hq; omega), if_neg (by rw [e9] at hq; omega)]
          exact r4 q (by rw [e9] at hq; omega)
      have hS1 : va_S (z_A z) s.heap F.heap locs := ⟨by rw [f1]; have := hS.1; omega, fun q hq hn => by rw [hold q (Nat.lt_of_lt_of_le hq hS.1)]; exact hS.2.1 q hq hn, hS.2.2⟩
      obtain ⟨t, a1, b1⟩ := kk F.heap locs arr (cells + 1 + N) (slots + N + N * K) hl hR1 hS1 (by rw [e1c]; omega) (by rw [e1s]; omega) F rfl X'
      refine ⟨t, step t ?_, b1⟩
      have ea : ad (z_np G) = H.size := by rw [had _ hR.2.1, hsz2]
      have e7 : (z_ins (77, a, b, cp, pc)).2 = 4 := rfl
      rw [e7] at a1
      rw [hT, ← ea]
      exact a1
    · cases hs
  · cases hs
end
