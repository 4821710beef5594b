/-! ===== a method's contract out of its body ===== -/
theorem z_cat_ge : ∀ r : List Value, r.length ≤ z_cat r
  | [] => Nat.le_refl 0
  | v :: r => by
    have h1 := z_cat_ge r
    have h2 : 1 ≤ v.category := by rcases lv_cat v with h | h <;> omega
    simp only [z_cat, List.length_cons]
    omega
theorem z_lgsl (ad : Nat → Nat) : ∀ av : List Value, z_cat av ≤ av.length → lg_sl (av.map (z_cv ad)) = av.map (fun v => Slot.val (z_cv ad v))
  | [], _ => rfl
  | v :: r, h => by
    have h1 := z_cat_ge r
    have h2 : 1 ≤ v.category := by rcases lv_cat v with h | h <;> omega
    simp only [z_cat, List.length_cons] at h
    have h3 : v.category = 1 := by omega
    have ih := z_lgsl ad r (by omega)
    unfold lg_sl at ih ⊢
    simp only [List.map_cons, List.flatMap_cons]
    rw [ih, z_cat_cv, h3]
    rfl
theorem z_loc_ent (ad : Nat → Nat) {f : Nat} {av : List Value} (h1 : av.length ≤ z_mxl f) (h2 : z_cat av ≤ av.length) : z_loc ad ((lg_sl (av.map (z_cv ad)) ++ List.replicate (z_mxl f - (lg_sl (av.map (z_cv ad))).length) Slot.unset).toArray) (z_ent f av) := by
  have e := z_lgsl ad av h2
  have hlen : (lg_sl (av.map (z_cv ad))).length = av.length := by rw [e, List.length_map]
  have hv := lv_entry (av.map (z_cv ad)) (n := z_mxl f) (by rw [hlen]; exact h1)
  refine ⟨?_, hv.2.1, fun i v hi hn => ?_⟩
  · rw [hv.1]
    simp only [z_ent, List.length_append, List.length_replicate]
    omega
  · unfold z_ent at hi
    by_cases hlt : i < av.length
    · rw [List.getElem?_append_left hlt] at hi
      rw [List.getElem?_toArray, List.getElem?_append_left (by rw [hlen]; exact hlt), e, List.getElem?_map, hi]
      rfl
    · rw [List.getElem?_append_right (by omega)] at hi
      have h9 := List.mem_of_getElem? hi
      rw [List.mem_replicate] at h9
      exact absurd h9.2 hn
theorem z_ent_len {f : Nat} {av : List Value} (h1 : av.length ≤ z_mxl f) : (z_ent f av).length = z_mxl f := by
  simp only [z_ent, List.length_append, List.length_replicate]
  omega
def z_rok (mi : Nat) (ins : Instr) (r : Option Value) : Prop := (ins = .return_ ∧ r = none ∧ z_rt mi = none) ∨ (∃ x : Int32, ins = .ireturn ∧ r = some (.int x) ∧ (z_rt mi = some .int ∨ (z_rt mi = some .boolean ∧ (x = 0 ∨ x = 1)))) ∨ (∃ x : Int64, ins = .lreturn ∧ r = some (.long x) ∧ z_rt mi = some .long)
/-- what is owed at a method's end -/
def z_FinR (p : Program) (l : Launch) (e : Env) (R : Room) (s : State) (m : MethodId) (args : Array Value) (below : List Frame) (meth : Method) (c : Code) (Q : State → Prop) (z : Nat) (ad : Nat → Nat) (ka : Nat → ClassId) (D : va_G) (mi CT ST : Nat) (r : Option Value) (G1 : zG) (M1 : zM) : Prop :=
  ∀ (H1 : Heap) (locs1 : List Loc) (arr1 : Array Slot) (pc1 : Nat) (ins : Instr), decode (zz_cd mi) pc1 = .ok (ins, 1) → z_rok mi ins r → z_Rel z ad ka D G1 M1 H1 → va_S (z_A z) s.heap H1 locs1 → W p l e R s m args below meth c H1 locs1 CT ST Q (F0 m pc1 arr1 (r.toList.map (z_cv ad)))
/-- the method's body, from its entry, for one run that returns -/
def z_Body (l : Launch) (Iv : State → Heap → Prop) (z : Nat) (ad : Nat → Nat) (ka : Nat → ClassId) (D : va_G) (f : Nat) (av : List Value) (G : zG) (M : zM) (r : Option Value) (G1 : zG) (M1 : zM) : Prop :=
  ∀ (p : Program) (e : Env) (R : Room) (s : State) (m : MethodId) (args : Array Value) (below : List Frame) (meth : Method) (c : Code) (Q : State → Prop) (arr : Array Slot) (CT ST : Nat), z_Ctx z ad ka D f p R s m args meth c → Iv s s.heap → z_loc ad arr (z_ent f av) → z_Rel z ad ka D G M s.heap → z_Ext z ad s s.heap G M → s.heap.size ≤ z + z_nc G → CT + z_nc G = z_nc G1 → ST + z_ns G = z_ns G1 → CT ≤ R.cells → ST ≤ R.slots → c.exceptionTable.toList = tableOf (z_hh f) → z_FinR p l e R s m args below meth c Q z ad ka D f CT ST r G1 M1 → W p l e R s m args below meth c s.heap [] 0 0 Q (F0 m 0 arr [])
theorem z_finR {p : Program} {l : Launch} {e : Env} {R : Room} {s : State} {m : MethodId} {args : Array Value} {below : List Frame} {meth : Method} {c : Code} {z : Nat} {ad : Nat → Nat} {ka : Nat → ClassId} {D : va_G} {mi CT ST : Nat} {r : Option Value} {G1 : zG} {M1 : zM} (C : z_Ctx z ad ka D mi p R s m args meth c) : z_FinR p l e R s m args below meth c (MQ below (z_Qr z ad ka D r G1 M1) args s CT ST (z_A z)) z ad ka D mi CT ST r G1 M1 := by
  intro H1 locs1 arr1 pc1 ins hd hr hR hS
  obtain ⟨hx, hb, hml, hrt, hown, hts, hlk, hfr, hlo, hK, hz, hnm, had, hon⟩ := C
  rcases hr with ⟨rfl, rfl, h3⟩ | ⟨x, rfl, rfl, h3⟩ | ⟨x, rfl, rfl, h3⟩
  · exact W.vret hx hb (hrt.trans h3) (fun t ht hW => ⟨⟨rfl, by rw [ht]; exact hR⟩, hS.F ht⟩) hS.2.2 hd
  · rcases h3 with h3 | ⟨h3, h4⟩
    · exact W.iret hx hb (hrt.trans h3) (fun t ht hW => ⟨⟨rfl, by rw [ht]; exact hR⟩, hS.F ht⟩) hS.2.2 hd
    · exact W.zret (ty := .boolean) hx hb (hrt.trans h3) (by rcases h4 with rfl | rfl <;> rfl) (fun t ht hW => ⟨⟨rfl, by rw [ht]; exact hR⟩, hS.F ht⟩) hS.2.2 hd
  · exact W.lret hx hb (hrt.trans h3) (fun t ht hW => ⟨⟨rfl, by rw [ht]; exact hR⟩, hS.F ht⟩) hS.2.2 hd
section
variable {l : Launch} {Iv : State → Heap → Prop} {z : Nat} {ad : Nat → Nat} {ka : Nat → ClassId} {D : va_G} {f : Nat} {av : List Value} {G : zG} {M : zM} {r : Option Value} {G1 : zG} {M1 : zM}
theorem z_toMet (hp : plainFor (z_y f) = true) (hon : zz_on (z_ow f) = (z_y f).cls) (had : ∀ q, 32 ≤ q → ad q = z + (q - 32)) (hav : av.length ≤ z_mxl f) (hc : z_cat av ≤ av.length) (hm1 : z_nc G ≤ z_nc G1) (hm2 : z_ns G ≤ z_ns G1) (hhh : z_hh f = []) (hB : z_Body l Iv z ad ka D f av G M r G1 M1) : z_Mt l Iv z ad ka D (.code (z_y f) (zz_cd f) (z_mxl f) (z_rt f)) f av G M (.inl r) G1 M1 := by
  refine va_MetF (cc := zz_cd f) (maxL := z_mxl f) (ret := z_rt f) hp rfl ?_
  intro p e s m args below meth c s1 B hml hv
  obtain ⟨rfl, hi, hK, hR, hE, hz, hsz⟩ := hv
  have hts0 := atoms_spec (ws := Cond.code (z_y f) (zz_cd f) (z_mxl f) (z_rt f) :: z_gw) B.pre
  have C : z_Ctx z ad ka D f p (z_rm f G G1) s m (av.map (z_cv ad)).toArray meth c := ⟨B.exec, B.bytes, hml, B.returns, by rw [hon]; exact findClass_of_methodNamed B.named, fun w hw => hts0 w (List.mem_cons_of_mem _ hw), B.notSynchronized, Nat.le_refl _, Nat.le_refl _, hK, hz, (name_of_methodNamed B.named B.method).1, had, hon⟩
  have htab : c.exceptionTable.toList = tableOf (z_hh f) := by
    obtain ⟨meth9, c9, h1, h2, -, -, -, -, h7, -⟩ := Cond.code_spec B.named (hts0 _ List.mem_cons_self)
    cases Option.some.inj (h1.symm.trans B.method)
    cases Option.some.inj (h2.symm.trans (Stand.of_body B).code)
    rw [hhh]
    have h8 : c.exceptionTable = #[] := by simpa using h7
    rw [h8]
    rfl
  rw [lg_entry_eq]
  exact hB p e _ s m _ below meth c _ _ (z_nc G1 - z_nc G) (z_ns G1 - z_ns G) C hi (z_loc_ent ad hav hc) hR hE hsz (by omega) (by omega) (Nat.le_refl _) (Nat.le_refl _) htab (z_finR C)
theorem z_ofWH {y : MethodName} {ws ws2 : List Cond} {rm : Room} {Pc : Array Value → State → Prop} {Qc : Array Value → State → Outcome → State → Prop} {mc ms : Nat} {free : Addr → Prop} {cc : ByteArray} {maxL : Nat} {ret9 : Option FieldType} {hh : List (Nat × Nat × Nat × Nat)}
    (hy : plainName y.cls = true) (hw : ws = Cond.codeWith y cc maxL ret9 hh :: ws2)
    (body : ∀ p e s m args below meth c s1, BodyLoose p l y (headSpec ws rm) cc maxL ret9 e s m args below meth c s1 → c.maxLocals = maxL → Pc args s →
      W p l e (headSpec ws rm).room s m args below meth c s.heap [] 0 0 (MQ below Qc args s mc ms free) (entryFrame m args maxL)) : Met l y ws rm Pc Qc mc ms free := by
  refine MetFree.of_bodyS (code := cc) (maxLocals := maxL) (ret := ret9) hy ?_ ?_
  · intro args s m h hn
    obtain ⟨m9, meth, c, hn9, h1, h2, h3, h4, -, h5, h6, -⟩ := Cond.codeWith_spec (atoms_spec (ws := ws) h _ (by rw [hw]; exact List.mem_cons_self))
    cases hn.symm.trans hn9
    exact ⟨meth, c, h1, h2, h3, h4, h5, h6⟩
  · intro p e s m args below meth c s1 B hml hP _
    have hh0 : s1.heap = s.heap := by rw [B.state]; rfl
    obtain ⟨t, a1, o, b1, b2, b3⟩ := body p e s m args below meth c s1 B hml hP s1 hh0 (Stand.of_body B)
    exact ⟨t, o, a1, b1, b2, ⟨b3.1, b3.2⟩⟩
theorem z_toMetW (hp : plainName (z_y f).cls = true) (hon : zz_on (z_ow f) = (z_y f).cls) (had : ∀ q, 32 ≤ q → ad q = z + (q - 32)) (hav : av.length ≤ z_mxl f) (hc : z_cat av ≤ av.length) (hm1 : z_nc G ≤ z_nc G1) (hm2 : z_ns G ≤ z_ns G1) (hB : z_Body l Iv z ad ka D f av G M r G1 M1) : z_Mt l Iv z ad ka D (.codeWith (z_y f) (zz_cd f) (z_mxl f) (z_rt f) (z_hh f)) f av G M (.inl r) G1 M1 := by
  refine z_ofWH (cc := zz_cd f) (maxL := z_mxl f) (ret9 := z_rt f) (hh := z_hh f) hp rfl ?_
  intro p e s m args below meth c s1 B hml hv
  obtain ⟨rfl, hi, hK, hR, hE, hz, hsz⟩ := hv
  have hts0 := atoms_spec (ws := Cond.codeWith (z_y f) (zz_cd f) (z_mxl f) (z_rt f) (z_hh f) :: z_gw) B.pre
  have C : z_Ctx z ad ka D f p (z_rm f G G1) s m (av.map (z_cv ad)).toArray meth c := ⟨B.exec, B.bytes, hml, B.returns, by rw [hon]; exact findClass_of_methodNamed B.named, fun w hw => hts0 w (List.mem_cons_of_mem _ hw), B.notSynchronized, Nat.le_refl _, Nat.le_refl _, hK, hz, (name_of_methodNamed B.named B.method).1, had, hon⟩
  have htab : c.exceptionTable.toList = tableOf (z_hh f) := vx_table (x := z_y f) B (hts0 _ List.mem_cons_self)
  rw [lg_entry_eq]
  exact hB p e _ s m _ below meth c _ _ (z_nc G1 - z_nc G) (z_ns G1 - z_ns G) C hi (z_loc_ent ad hav hc) hR hE hsz (by omega) (by omega) (Nat.le_refl _) (Nat.le_refl _) htab (z_finR C)
end
