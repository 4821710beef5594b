/-! ===== the small machine's steps are the real machine's: one operation at a time ===== -/
/-- what holds in a method's body: the machine, the code, the words, the room, the tables -/
def z_Ctx (z : Nat) (ad : Nat → Nat) (ka : Nat → ClassId) (D : va_G) (mi : Nat) (p : Program) (R : Room) (s : State) (m : MethodId) (args : Array Value) (meth : Method) (c : Code) : Prop :=
  p.tables.exec = Jvm.exec ∧ c.code = zz_cd mi ∧ c.maxLocals = z_mxl mi ∧ meth.sig.returnType = z_rt mi ∧ s.vm.findClass (zz_on (z_ow mi)) = some m.cls ∧ (∀ w ∈ z_gw, w.before args s = true) ∧ meth.locks = false ∧ z_fr mi ≤ R.frames ∧ zz_lo mi ≤ R.locals ∧ va_K D z_cl (z_tys ka) s ∧ z ≤ s.heap.size ∧ meth.name = (z_y mi).name ∧ (∀ q, 32 ≤ q → ad q = z + (q - 32)) ∧ zz_on (z_ow mi) = (z_y mi).cls
/-- what is owed behind a step -/
def z_go1 (p : Program) (l : Launch) (e : Env) (R : Room) (s : State) (m : MethodId) (args : Array Value) (below : List Frame) (meth : Method) (c : Code) (Q : State → Prop) (z : Nat) (ad : Nat → Nat) (ka : Nat → ClassId) (D : va_G) (G : zG) (cells slots pc1 : Nat) (ls' st' : List Value) (G1 : zG) (M1 : zM) : Prop :=
  ∀ (H1 : Heap) (locs1 : List Loc) (arr1 : Array Slot) (cells1 slots1 : Nat), z_loc ad arr1 ls' → z_Rel z ad ka D G1 M1 H1 → va_S (z_A z) s.heap H1 locs1 → cells1 + z_nc G = cells + z_nc G1 → slots1 + z_ns G = slots + z_ns G1 → W p l e R s m args below meth c H1 locs1 cells1 slots1 Q (F0 m pc1 arr1 (st'.map (z_cv ad)))
theorem z_cmpl_eq (x y : Int64) : z_cmpl x y = lg_cmp x y := by
  unfold z_cmpl lg_cmp
  by_cases h1 : x < y
  · have h2 : ¬ x = y := fun e => by subst e; exact Int64.lt_irrefl h1
    have h3 : ¬ y < x := fun h => Int64.lt_asymm h1 h
    simp [h1, h2, h3]
  · by_cases h2 : x = y
    · simp [h1, h2]
    · have h3 : y < x := Int64.lt_of_le_of_ne (Int64.not_lt.mp h1) (fun e => h2 e.symm)
      simp [h1, h2, h3]
section
variable {p : Program} {l : Launch} {e : Env} {R : Room} {s : State} {m : MethodId} {args : Array Value} {below : List Frame} {meth : Method} {c : Code} {H : Heap} {locs : List Loc} {cells slots : Nat} {Q : State → Prop}
variable {z : Nat} {ad : Nat → Nat} {ka : Nat → ClassId} {D : va_G} {mi a b cp pc : Nat} {ls st : List Value} {G : zG} {M : zM} {L : Option Nat} {ls' st' : List Value} {G1 : zG} {M1 : zM} {arr : Array Slot}
theorem zn_0 (C : z_Ctx z ad ka D mi p R s m args meth c) (hl : z_loc ad arr ls) (hR : z_Rel z ad ka D G M H) (hE : z_Ext z ad s s.heap G M) (hS : va_S (z_A z) s.heap H locs) (hs : z_step 0 a b ls st G M = some (.inl (L, ls', st', G1, M1))) (ha : a < 4) (hd : decode (zz_cd mi) pc = .ok (.iload_n (Fin.ofNat 4 a), 1)) (kk : z_go1 p l e R s m args below meth c Q z ad ka D G cells slots (pc + 1) ls' st' G1 M1) : W p l e R s m args below meth c H locs cells slots Q (F0 m pc arr (st.map (z_cv ad))) := by
  obtain ⟨hx, hb, hml, hrt, hown, hts, hlk, hfr, hlo, hK, hz, hnm, had, hon⟩ := C
  simp only [z_step] at hs
  split at hs
  · rename_i x hx0
    cases hs
    exact lv_iload_n hx hb hd (by show a % 4 = a; omega) (hl.2.2 a _ hx0 (fun q => by cases q)) (kk _ _ _ _ _ hl hR hS rfl rfl)
  · cases hs
theorem zn_1 (C : z_Ctx z ad ka D mi p R s m args meth c) (hl : z_loc ad arr ls) (hR : z_Rel z ad ka D G M H) (hE : z_Ext z ad s s.heap G M) (hS : va_S (z_A z) s.heap H locs) (hs : z_step 1 a b ls st G M = some (.inl (L, ls', st', G1, M1)))  (hd : decode (zz_cd mi) pc = .ok (.iload a, 2)) (kk : z_go1 p l e R s m args below meth c Q z ad ka D G cells slots (pc + 2) ls' st' G1 M1) : W p l e R s m args below meth c H locs cells slots Q (F0 m pc arr (st.map (z_cv ad))) := by
  obtain ⟨hx, hb, hml, hrt, hown, hts, hlk, hfr, hlo, hK, hz, hnm, had, hon⟩ := C
  simp only [z_step] at hs
  split at hs
  · rename_i x hx0
    cases hs
    exact lv_iload hx hb hd (hl.2.2 a _ hx0 (fun q => by cases q)) (kk _ _ _ _ _ hl hR hS rfl rfl)
  · cases hs
theorem zn_2 (C : z_Ctx z ad ka D mi p R s m args meth c) (hl : z_loc ad arr ls) (hR : z_Rel z ad ka D G M H) (hE : z_Ext z ad s s.heap G M) (hS : va_S (z_A z) s.heap H locs) (hs : z_step 2 a b ls st G M = some (.inl (L, ls', st', G1, M1))) (ha : a < 4) (hd : decode (zz_cd mi) pc = .ok (.aload_n (Fin.ofNat 4 a), 1)) (kk : z_go1 p l e R s m args below meth c Q z ad ka D G cells slots (pc + 1) ls' st' G1 M1) : W p l e R s m args below meth c H locs cells slots Q (F0 m pc arr (st.map (z_cv ad))) := by
  obtain ⟨hx, hb, hml, hrt, hown, hts, hlk, hfr, hlo, hK, hz, hnm, had, hon⟩ := C
  simp only [z_step] at hs
  split at hs
  · rename_i x hx0
    cases hs
    exact lv_aload_n hx hb hd (by show a % 4 = a; omega) (hl.2.2 a _ hx0 (fun q => by cases q)) (kk _ _ _ _ _ hl hR hS rfl rfl)
  · cases hs
theorem zn_3 (C : z_Ctx z ad ka D mi p R s m args meth c) (hl : z_loc ad arr ls) (hR : z_Rel z ad ka D G M H) (hE : z_Ext z ad s s.heap G M) (hS : va_S (z_A z) s.heap H locs) (hs : z_step 3 a b ls st G M = some (.inl (L, ls', st', G1, M1)))  (hd : decode (zz_cd mi) pc = .ok (.aload a, 2)) (kk : z_go1 p l e R s m args below meth c Q z ad ka D G cells slots (pc + 2) ls' st' G1 M1) : W p l e R s m args below meth c H locs cells slots Q (F0 m pc arr (st.map (z_cv ad))) := by
  obtain ⟨hx, hb, hml, hrt, hown, hts, hlk, hfr, hlo, hK, hz, hnm, had, hon⟩ := C
  simp only [z_step] at hs
  split at hs
  · rename_i x hx0
    cases hs
    exact lv_aload hx hb hd (hl.2.2 a _ hx0 (fun q => by cases q)) (kk _ _ _ _ _ hl hR hS rfl rfl)
  · cases hs
theorem zn_4 (C : z_Ctx z ad ka D mi p R s m args meth c) (hl : z_loc ad arr ls) (hR : z_Rel z ad ka D G M H) (hE : z_Ext z ad s s.heap G M) (hS : va_S (z_A z) s.heap H locs) (hs : z_step 4 a b ls st G M = some (.inl (L, ls', st', G1, M1))) (ha : a < 4) (hd : decode (zz_cd mi) pc = .ok (.lload_n (Fin.ofNat 4 a), 1)) (kk : z_go1 p l e R s m args below meth c Q z ad ka D G cells slots (pc + 1) ls' st' G1 M1) : W p l e R s m args below meth c H locs cells slots Q (F0 m pc arr (st.map (z_cv ad))) := by
  obtain ⟨hx, hb, hml, hrt, hown, hts, hlk, hfr, hlo, hK, hz, hnm, had, hon⟩ := C
  simp only [z_step] at hs
  split at hs
  · rename_i x hx0
    cases hs
    exact lv_lload_n hx hb hd (by show a % 4 = a; omega) (hl.2.2 a _ hx0 (fun q => by cases q)) (kk _ _ _ _ _ hl hR hS rfl rfl)
  · cases hs
theorem zn_5 (C : z_Ctx z ad ka D mi p R s m args meth c) (hl : z_loc ad arr ls) (hR : z_Rel z ad ka D G M H) (hE : z_Ext z ad s s.heap G M) (hS : va_S (z_A z) s.heap H locs) (hs : z_step 5 a b ls st G M = some (.inl (L, ls', st', G1, M1)))  (hd : decode (zz_cd mi) pc = .ok (.iconst (Int32.ofNat a).toInt, 1)) (kk : z_go1 p l e R s m args below meth c Q z ad ka D G cells slots (pc + 1) ls' st' G1 M1) : W p l e R s m args below meth c H locs cells slots Q (F0 m pc arr (st.map (z_cv ad))) := by
  obtain ⟨hx, hb, hml, hrt, hown, hts, hlk, hfr, hlo, hK, hz, hnm, had, hon⟩ := C
  cases hs
  exact lv_iconst hx hb hd (Int32.ofInt_toInt (Int32.ofNat a)) (kk _ _ _ _ _ hl hR hS rfl rfl)
theorem zn_6 (C : z_Ctx z ad ka D mi p R s m args meth c) (hl : z_loc ad arr ls) (hR : z_Rel z ad ka D G M H) (hE : z_Ext z ad s s.heap G M) (hS : va_S (z_A z) s.heap H locs) (hs : z_step 6 a b ls st G M = some (.inl (L, ls', st', G1, M1))) (ha : (Int8.ofInt (Int32.ofNat a).toInt).toInt32 = Int32.ofNat a) (hd : decode (zz_cd mi) pc = .ok (.bipush (Int32.ofNat a).toInt, 2)) (kk : z_go1 p l e R s m args below meth c Q z ad ka D G cells slots (pc + 2) ls' st' G1 M1) : W p l e R s m args below meth c H locs cells slots Q (F0 m pc arr (st.map (z_cv ad))) := by
  obtain ⟨hx, hb, hml, hrt, hown, hts, hlk, hfr, hlo, hK, hz, hnm, had, hon⟩ := C
  cases hs
  exact lv_bipush hx hb hd ha (kk _ _ _ _ _ hl hR hS rfl rfl)
theorem zn_7 (C : z_Ctx z ad ka D mi p R s m args meth c) (hl : z_loc ad arr ls) (hR : z_Rel z ad ka D G M H) (hE : z_Ext z ad s s.heap G M) (hS : va_S (z_A z) s.heap H locs) (hs : z_step 7 a b ls st G M = some (.inl (L, ls', st', G1, M1))) (ha : (Int16.ofInt (Int32.ofNat a).toInt).toInt32 = Int32.ofNat a) (hd : decode (zz_cd mi) pc = .ok (.sipush (Int32.ofNat a).toInt, 3)) (kk : z_go1 p l e R s m args below meth c Q z ad ka D G cells slots (pc + 3) ls' st' G1 M1) : W p l e R s m args below meth c H locs cells slots Q (F0 m pc arr (st.map (z_cv ad))) := by
  obtain ⟨hx, hb, hml, hrt, hown, hts, hlk, hfr, hlo, hK, hz, hnm, had, hon⟩ := C
  cases hs
  exact lv_sipush hx hb hd ha (kk _ _ _ _ _ hl hR hS rfl rfl)
theorem zn_8 (C : z_Ctx z ad ka D mi p R s m args meth c) (hl : z_loc ad arr ls) (hR : z_Rel z ad ka D G M H) (hE : z_Ext z ad s s.heap G M) (hS : va_S (z_A z) s.heap H locs) (hs : z_step 8 a b ls st G M = some (.inl (L, ls', st', G1, M1))) (ha : (z_ow mi, cp, a) ∈ z_ti) (hd : decode (zz_cd mi) pc = .ok (.ldc cp, 2)) (kk : z_go1 p l e R s m args below meth c Q z ad ka D G cells slots (pc + 2) ls' st' G1 M1) : W p l e R s m args below meth c H locs cells slots Q (F0 m pc arr (st.map (z_cv ad))) := by
  obtain ⟨hx, hb, hml, hrt, hown, hts, hlk, hfr, hlo, hK, hz, hnm, had, hon⟩ := C
  cases hs
  exact lv_ldc hx hb hown (hts _ (z_ti_ok _ ha)) hd (kk _ _ _ _ _ hl hR hS rfl rfl)
theorem zn_9 (C : z_Ctx z ad ka D mi p R s m args meth c) (hl : z_loc ad arr ls) (hR : z_Rel z ad ka D G M H) (hE : z_Ext z ad s s.heap G M) (hS : va_S (z_A z) s.heap H locs) (hs : z_step 9 a b ls st G M = some (.inl (L, ls', st', G1, M1))) (ha : (z_ow mi, cp, a) ∈ z_ti) (hd : decode (zz_cd mi) pc = .ok (.ldc_w cp, 3)) (kk : z_go1 p l e R s m args below meth c Q z ad ka D G cells slots (pc + 3) ls' st' G1 M1) : W p l e R s m args below meth c H locs cells slots Q (F0 m pc arr (st.map (z_cv ad))) := by
  obtain ⟨hx, hb, hml, hrt, hown, hts, hlk, hfr, hlo, hK, hz, hnm, had, hon⟩ := C
  cases hs
  exact lv_ldcw hx hb hown (hts _ (z_ti_ok _ ha)) hd (kk _ _ _ _ _ hl hR hS rfl rfl)
theorem zn_10 (C : z_Ctx z ad ka D mi p R s m args meth c) (hl : z_loc ad arr ls) (hR : z_Rel z ad ka D G M H) (hE : z_Ext z ad s s.heap G M) (hS : va_S (z_A z) s.heap H locs) (hs : z_step 10 a b ls st G M = some (.inl (L, ls', st', G1, M1))) (ha : a < 4) (hd : decode (zz_cd mi) pc = .ok (.istore_n (Fin.ofNat 4 a), 1)) (kk : z_go1 p l e R s m args below meth c Q z ad ka D G cells slots (pc + 1) ls' st' G1 M1) : W p l e R s m args below meth c H locs cells slots Q (F0 m pc arr (st.map (z_cv ad))) := by
  obtain ⟨hx, hb, hml, hrt, hown, hts, hlk, hfr, hlo, hK, hz, hnm, had, hon⟩ := C
  simp only [z_step] at hs
  split at hs
  · rename_i x r
    split at hs
    · rename_i ls2 hp
      cases hs
      exact lv_istore_n hx hb hd (by show a % 4 = a; omega) hl.has (z_put_spec hp).1 rfl (fun arr2 h2 => kk _ _ _ _ _ (z_loc.put (v := .int x) hp h2) hR hS rfl rfl)
    · cases hs
  · cases hs
theorem zn_11 (C : z_Ctx z ad ka D mi p R s m args meth c) (hl : z_loc ad arr ls) (hR : z_Rel z ad ka D G M H) (hE : z_Ext z ad s s.heap G M) (hS : va_S (z_A z) s.heap H locs) (hs : z_step 11 a b ls st G M = some (.inl (L, ls', st', G1, M1)))  (hd : decode (zz_cd mi) pc = .ok (.istore a, 2)) (kk : z_go1 p l e R s m args below meth c Q z ad ka D G cells slots (pc + 2) ls' st' G1 M1) : W p l e R s m args below meth c H locs cells slots Q (F0 m pc arr (st.map (z_cv ad))) := by
  obtain ⟨hx, hb, hml, hrt, hown, hts, hlk, hfr, hlo, hK, hz, hnm, had, hon⟩ := C
  simp only [z_step] at hs
  split at hs
  · rename_i x r
    split at hs
    · rename_i ls2 hp
      cases hs
      exact lv_istore hx hb hd hl.has (z_put_spec hp).1 rfl (fun arr2 h2 => kk _ _ _ _ _ (z_loc.put (v := .int x) hp h2) hR hS rfl rfl)
    · cases hs
  · cases hs
theorem zn_12 (C : z_Ctx z ad ka D mi p R s m args meth c) (hl : z_loc ad arr ls) (hR : z_Rel z ad ka D G M H) (hE : z_Ext z ad s s.heap G M) (hS : va_S (z_A z) s.heap H locs) (hs : z_step 12 a b ls st G M = some (.inl (L, ls', st', G1, M1))) (ha : a < 4) (hd : decode (zz_cd mi) pc = .ok (.astore_n (Fin.ofNat 4 a), 1)) (kk : z_go1 p l e R s m args below meth c Q z ad ka D G cells slots (pc + 1) ls' st' G1 M1) : W p l e R s m args below meth c H locs cells slots Q (F0 m pc arr (st.map (z_cv ad))) := by
  obtain ⟨hx, hb, hml, hrt, hown, hts, hlk, hfr, hlo, hK, hz, hnm, had, hon⟩ := C
  simp only [z_step] at hs
  split at hs
  · rename_i x r
    split at hs
    · rename_i ls2 hp
      cases hs
      exact lv_astore_n hx hb hd (by show a % 4 = a; omega) hl.has (z_put_spec hp).1 rfl (fun arr2 h2 => kk _ _ _ _ _ (z_loc.put (v := .ref x) hp h2) hR hS rfl rfl)
    · cases hs
  · cases hs
theorem zn_13 (C : z_Ctx z ad ka D mi p R s m args meth c) (hl : z_loc ad arr ls) (hR : z_Rel z ad ka D G M H) (hE : z_Ext z ad s s.heap G M) (hS : va_S (z_A z) s.heap H locs) (hs : z_step 13 a b ls st G M = some (.inl (L, ls', st', G1, M1)))  (hd : decode (zz_cd mi) pc = .ok (.astore a, 2)) (kk : z_go1 p l e R s m args below meth c Q z ad ka D G cells slots (pc + 2) ls' st' G1 M1) : W p l e R s m args below meth c H locs cells slots Q (F0 m pc arr (st.map (z_cv ad))) := by
  obtain ⟨hx, hb, hml, hrt, hown, hts, hlk, hfr, hlo, hK, hz, hnm, had, hon⟩ := C
  simp only [z_step] at hs
  split at hs
  · rename_i x r
    split at hs
    · rename_i ls2 hp
      cases hs
      exact lv_astore hx hb hd hl.has (z_put_spec hp).1 rfl (fun arr2 h2 => kk _ _ _ _ _ (z_loc.put (v := .ref x) hp h2) hR hS rfl rfl)
    · cases hs
  · cases hs
theorem zn_14 (C : z_Ctx z ad ka D mi p R s m args meth c) (hl : z_loc ad arr ls) (hR : z_Rel z ad ka D G M H) (hE : z_Ext z ad s s.heap G M) (hS : va_S (z_A z) s.heap H locs) (hs : z_step 14 a b ls st G M = some (.inl (L, ls', st', G1, M1))) (ha : a < 4) (hd : decode (zz_cd mi) pc = .ok (.lstore_n (Fin.ofNat 4 a), 1)) (kk : z_go1 p l e R s m args below meth c Q z ad ka D G cells slots (pc + 1) ls' st' G1 M1) : W p l e R s m args below meth c H locs cells slots Q (F0 m pc arr (st.map (z_cv ad))) := by
  obtain ⟨hx, hb, hml, hrt, hown, hts, hlk, hfr, hlo, hK, hz, hnm, had, hon⟩ := C
  simp only [z_step] at hs
  split at hs
  · rename_i x r
    split at hs
    · rename_i ls2 hp
      cases hs
      exact lv_lstore_n hx hb hd (by show a % 4 = a; omega) hl.has (z_putL_spec hp).1 rfl (fun arr2 h2 => kk _ _ _ _ _ (z_loc.putL hp h2) hR hS rfl rfl)
    · cases hs
  · cases hs
theorem zn_15 (C : z_Ctx z ad ka D mi p R s m args meth c) (hl : z_loc ad arr ls) (hR : z_Rel z ad ka D G M H) (hE : z_Ext z ad s s.heap G M) (hS : va_S (z_A z) s.heap H locs) (hs : z_step 15 a b ls st G M = some (.inl (L, ls', st', G1, M1)))  (hd : decode (zz_cd mi) pc = .ok (.iinc a (Int32.ofNat b).toInt, 3)) (kk : z_go1 p l e R s m args below meth c Q z ad ka D G cells slots (pc + 3) ls' st' G1 M1) : W p l e R s m args below meth c H locs cells slots Q (F0 m pc arr (st.map (z_cv ad))) := by
  obtain ⟨hx, hb, hml, hrt, hown, hts, hlk, hfr, hlo, hK, hz, hnm, had, hon⟩ := C
  simp only [z_step] at hs
  split at hs
  · rename_i x hx0
    split at hs
    · rename_i ls2 hp
      cases hs
      obtain ⟨k0, hk0⟩ := List.getElem?_of_mem (z_lv_mem (ad := ad) (q := (a, .int x)) |>.mpr ⟨.int x, hx0, (fun q => by cases q), rfl⟩)
      exact lv_iinc hx hb hd hl.has hk0 (by rw [Int32.ofInt_toInt]) (z_put_spec hp).1 rfl (fun arr2 h2 => kk _ _ _ _ _ (z_loc.put (v := .int (x + Int32.ofNat b)) hp h2) hR hS rfl rfl)
    · cases hs
  · cases hs
theorem zn_20 (C : z_Ctx z ad ka D mi p R s m args meth c) (hl : z_loc ad arr ls) (hR : z_Rel z ad ka D G M H) (hE : z_Ext z ad s s.heap G M) (hS : va_S (z_A z) s.heap H locs) (hs : z_step 20 a b ls st G M = some (.inl (L, ls', st', G1, M1)))  (hd : decode (zz_cd mi) pc = .ok (.iadd, 1)) (kk : z_go1 p l e R s m args below meth c Q z ad ka D G cells slots (pc + 1) ls' st' G1 M1) : W p l e R s m args below meth c H locs cells slots Q (F0 m pc arr (st.map (z_cv ad))) := by
  obtain ⟨hx, hb, hml, hrt, hown, hts, hlk, hfr, hlo, hK, hz, hnm, had, hon⟩ := C
  simp only [z_step] at hs
  split at hs
  · cases hs
    exact lv_iadd hx hb hd (kk _ _ _ _ _ hl hR hS rfl rfl)
  · cases hs
theorem zn_21 (C : z_Ctx z ad ka D mi p R s m args meth c) (hl : z_loc ad arr ls) (hR : z_Rel z ad ka D G M H) (hE : z_Ext z ad s s.heap G M) (hS : va_S (z_A z) s.heap H locs) (hs : z_step 21 a b ls st G M = some (.inl (L, ls', st', G1, M1)))  (hd : decode (zz_cd mi) pc = .ok (.isub, 1)) (kk : z_go1 p l e R s m args below meth c Q z ad ka D G cells slots (pc + 1) ls' st' G1 M1) : W p l e R s m args below meth c H locs cells slots Q (F0 m pc arr (st.map (z_cv ad))) := by
  obtain ⟨hx, hb, hml, hrt, hown, hts, hlk, hfr, hlo, hK, hz, hnm, had, hon⟩ := C
  simp only [z_step] at hs
  split at hs
  · cases hs
    exact lv_isub hx hb hd (kk _ _ _ _ _ hl hR hS rfl rfl)
  · cases hs
theorem zn_22 (C : z_Ctx z ad ka D mi p R s m args meth c) (hl : z_loc ad arr ls) (hR : z_Rel z ad ka D G M H) (hE : z_Ext z ad s s.heap G M) (hS : va_S (z_A z) s.heap H locs) (hs : z_step 22 a b ls st G M = some (.inl (L, ls', st', G1, M1)))  (hd : decode (zz_cd mi) pc = .ok (.imul, 1)) (kk : z_go1 p l e R s m args below meth c Q z ad ka D G cells slots (pc + 1) ls' st' G1 M1) : W p l e R s m args below meth c H locs cells slots Q (F0 m pc arr (st.map (z_cv ad))) := by
  obtain ⟨hx, hb, hml, hrt, hown, hts, hlk, hfr, hlo, hK, hz, hnm, had, hon⟩ := C
  simp only [z_step] at hs
  split at hs
  · cases hs
    exact lv_imul hx hb hd (kk _ _ _ _ _ hl hR hS rfl rfl)
  · cases hs
theorem zn_23 (C : z_Ctx z ad ka D mi p R s m args meth c) (hl : z_loc ad arr ls) (hR : z_Rel z ad ka D G M H) (hE : z_Ext z ad s s.heap G M) (hS : va_S (z_A z) s.heap H locs) (hs : z_step 23 a b ls st G M = some (.inl (L, ls', st', G1, M1)))  (hd : decode (zz_cd mi) pc = .ok (.iand, 1)) (kk : z_go1 p l e R s m args below meth c Q z ad ka D G cells slots (pc + 1) ls' st' G1 M1) : W p l e R s m args below meth c H locs cells slots Q (F0 m pc arr (st.map (z_cv ad))) := by
  obtain ⟨hx, hb, hml, hrt, hown, hts, hlk, hfr, hlo, hK, hz, hnm, had, hon⟩ := C
  simp only [z_step] at hs
  split at hs
  · cases hs
    exact lv_iand hx hb hd (kk _ _ _ _ _ hl hR hS rfl rfl)
  · cases hs
theorem zn_24 (C : z_Ctx z ad ka D mi p R s m args meth c) (hl : z_loc ad arr ls) (hR : z_Rel z ad ka D G M H) (hE : z_Ext z ad s s.heap G M) (hS : va_S (z_A z) s.heap H locs) (hs : z_step 24 a b ls st G M = some (.inl (L, ls', st', G1, M1)))  (hd : decode (zz_cd mi) pc = .ok (.ior, 1)) (kk : z_go1 p l e R s m args below meth c Q z ad ka D G cells slots (pc + 1) ls' st' G1 M1) : W p l e R s m args below meth c H locs cells slots Q (F0 m pc arr (st.map (z_cv ad))) := by
  obtain ⟨hx, hb, hml, hrt, hown, hts, hlk, hfr, hlo, hK, hz, hnm, had, hon⟩ := C
  simp only [z_step] at hs
  split at hs
  · cases hs
    exact lv_ior hx hb hd (kk _ _ _ _ _ hl hR hS rfl rfl)
  · cases hs
theorem zn_25 (C : z_Ctx z ad ka D mi p R s m args meth c) (hl : z_loc ad arr ls) (hR : z_Rel z ad ka D G M H) (hE : z_Ext z ad s s.heap G M) (hS : va_S (z_A z) s.heap H locs) (hs : z_step 25 a b ls st G M = some (.inl (L, ls', st', G1, M1)))  (hd : decode (zz_cd mi) pc = .ok (.ixor, 1)) (kk : z_go1 p l e R s m args below meth c Q z ad ka D G cells slots (pc + 1) ls' st' G1 M1) : W p l e R s m args below meth c H locs cells slots Q (F0 m pc arr (st.map (z_cv ad))) := by
  obtain ⟨hx, hb, hml, hrt, hown, hts, hlk, hfr, hlo, hK, hz, hnm, had, hon⟩ := C
  simp only [z_step] at hs
  split at hs
  · cases hs
    exact lv_ixor hx hb hd (kk _ _ _ _ _ hl hR hS rfl rfl)
  · cases hs
theorem zn_26 (C : z_Ctx z ad ka D mi p R s m args meth c) (hl : z_loc ad arr ls) (hR : z_Rel z ad ka D G M H) (hE : z_Ext z ad s s.heap G M) (hS : va_S (z_A z) s.heap H locs) (hs : z_step 26 a b ls st G M = some (.inl (L, ls', st', G1, M1)))  (hd : decode (zz_cd mi) pc = .ok (.ishl, 1)) (kk : z_go1 p l e R s m args below meth c Q z ad ka D G cells slots (pc + 1) ls' st' G1 M1) : W p l e R s m args below meth c H locs cells slots Q (F0 m pc arr (st.map (z_cv ad))) := by
  obtain ⟨hx, hb, hml, hrt, hown, hts, hlk, hfr, hlo, hK, hz, hnm, had, hon⟩ := C
  simp only [z_step] at hs
  split at hs
  · cases hs
    exact lv_ishl hx hb hd (kk _ _ _ _ _ hl hR hS rfl rfl)
  · cases hs
theorem zn_27 (C : z_Ctx z ad ka D mi p R s m args meth c) (hl : z_loc ad arr ls) (hR : z_Rel z ad ka D G M H) (hE : z_Ext z ad s s.heap G M) (hS : va_S (z_A z) s.heap H locs) (hs : z_step 27 a b ls st G M = some (.inl (L, ls', st', G1, M1)))  (hd : decode (zz_cd mi) pc = .ok (.ishr, 1)) (kk : z_go1 p l e R s m args below meth c Q z ad ka D G cells slots (pc + 1) ls' st' G1 M1) : W p l e R s m args below meth c H locs cells slots Q (F0 m pc arr (st.map (z_cv ad))) := by
  obtain ⟨hx, hb, hml, hrt, hown, hts, hlk, hfr, hlo, hK, hz, hnm, had, hon⟩ := C
  simp only [z_step] at hs
  split at hs
  · cases hs
    exact lv_ishr hx hb hd (kk _ _ _ _ _ hl hR hS rfl rfl)
  · cases hs
theorem zn_28 (C : z_Ctx z ad ka D mi p R s m args meth c) (hl : z_loc ad arr ls) (hR : z_Rel z ad ka D G M H) (hE : z_Ext z ad s s.heap G M) (hS : va_S (z_A z) s.heap H locs) (hs : z_step 28 a b ls st G M = some (.inl (L, ls', st', G1, M1)))  (hd : decode (zz_cd mi) pc = .ok (.iushr, 1)) (kk : z_go1 p l e R s m args below meth c Q z ad ka D G cells slots (pc + 1) ls' st' G1 M1) : W p l e R s m args below meth c H locs cells slots Q (F0 m pc arr (st.map (z_cv ad))) := by
  obtain ⟨hx, hb, hml, hrt, hown, hts, hlk, hfr, hlo, hK, hz, hnm, had, hon⟩ := C
  simp only [z_step] at hs
  split at hs
  · cases hs
    exact lv_iushr hx hb hd rfl (kk _ _ _ _ _ hl hR hS rfl rfl)
  · cases hs
theorem zn_29 (C : z_Ctx z ad ka D mi p R s m args meth c) (hl : z_loc ad arr ls) (hR : z_Rel z ad ka D G M H) (hE : z_Ext z ad s s.heap G M) (hS : va_S (z_A z) s.heap H locs) (hs : z_step 29 a b ls st G M = some (.inl (L, ls', st', G1, M1)))  (hd : decode (zz_cd mi) pc = .ok (.idiv, 1)) (kk : z_go1 p l e R s m args below meth c Q z ad ka D G cells slots (pc + 1) ls' st' G1 M1) : W p l e R s m args below meth c H locs cells slots Q (F0 m pc arr (st.map (z_cv ad))) := by
  obtain ⟨hx, hb, hml, hrt, hown, hts, hlk, hfr, hlo, hK, hz, hnm, had, hon⟩ := C
  simp only [z_step] at hs
  split at hs
  · split at hs
    · cases hs
    · rename_i hne
      cases hs
      exact lv_idiv hx hb hd hne (kk _ _ _ _ _ hl hR hS rfl rfl)
  · cases hs
theorem zn_30 (C : z_Ctx z ad ka D mi p R s m args meth c) (hl : z_loc ad arr ls) (hR : z_Rel z ad ka D G M H) (hE : z_Ext z ad s s.heap G M) (hS : va_S (z_A z) s.heap H locs) (hs : z_step 30 a b ls st G M = some (.inl (L, ls', st', G1, M1)))  (hd : decode (zz_cd mi) pc = .ok (.irem, 1)) (kk : z_go1 p l e R s m args below meth c Q z ad ka D G cells slots (pc + 1) ls' st' G1 M1) : W p l e R s m args below meth c H locs cells slots Q (F0 m pc arr (st.map (z_cv ad))) := by
  obtain ⟨hx, hb, hml, hrt, hown, hts, hlk, hfr, hlo, hK, hz, hnm, had, hon⟩ := C
  simp only [z_step] at hs
  split at hs
  · split at hs
    · cases hs
    · rename_i hne
      cases hs
      exact lv_irem hx hb hd hne (kk _ _ _ _ _ hl hR hS rfl rfl)
  · cases hs
theorem zn_31 (C : z_Ctx z ad ka D mi p R s m args meth c) (hl : z_loc ad arr ls) (hR : z_Rel z ad ka D G M H) (hE : z_Ext z ad s s.heap G M) (hS : va_S (z_A z) s.heap H locs) (hs : z_step 31 a b ls st G M = some (.inl (L, ls', st', G1, M1)))  (hd : decode (zz_cd mi) pc = .ok (.ineg, 1)) (kk : z_go1 p l e R s m args below meth c Q z ad ka D G cells slots (pc + 1) ls' st' G1 M1) : W p l e R s m args below meth c H locs cells slots Q (F0 m pc arr (st.map (z_cv ad))) := by
  obtain ⟨hx, hb, hml, hrt, hown, hts, hlk, hfr, hlo, hK, hz, hnm, had, hon⟩ := C
  simp only [z_step] at hs
  split at hs
  · cases hs
    exact lv_ineg hx hb hd (kk _ _ _ _ _ hl hR hS rfl rfl)
  · cases hs
theorem zn_39 (C : z_Ctx z ad ka D mi p R s m args meth c) (hl : z_loc ad arr ls) (hR : z_Rel z ad ka D G M H) (hE : z_Ext z ad s s.heap G M) (hS : va_S (z_A z) s.heap H locs) (hs : z_step 39 a b ls st G M = some (.inl (L, ls', st', G1, M1)))  (hd : decode (zz_cd mi) pc = .ok (.dup, 1)) (kk : z_go1 p l e R s m args below meth c Q z ad ka D G cells slots (pc + 1) ls' st' G1 M1) : W p l e R s m args below meth c H locs cells slots Q (F0 m pc arr (st.map (z_cv ad))) := by
  obtain ⟨hx, hb, hml, hrt, hown, hts, hlk, hfr, hlo, hK, hz, hnm, had, hon⟩ := C
  simp only [z_step] at hs
  split at hs
  · split at hs
    · rename_i hc
      cases hs
      exact lv_dup hx hb hd (by rw [z_cat_cv]; exact hc) (kk _ _ _ _ _ hl hR hS rfl rfl)
    · cases hs
  · cases hs
theorem zn_40 (C : z_Ctx z ad ka D mi p R s m args meth c) (hl : z_loc ad arr ls) (hR : z_Rel z ad ka D G M H) (hE : z_Ext z ad s s.heap G M) (hS : va_S (z_A z) s.heap H locs) (hs : z_step 40 a b ls st G M = some (.inl (L, ls', st', G1, M1)))  (hd : decode (zz_cd mi) pc = .ok (.dup2, 1)) (kk : z_go1 p l e R s m args below meth c Q z ad ka D G cells slots (pc + 1) ls' st' G1 M1) : W p l e R s m args below meth c H locs cells slots Q (F0 m pc arr (st.map (z_cv ad))) := by
  obtain ⟨hx, hb, hml, hrt, hown, hts, hlk, hfr, hlo, hK, hz, hnm, had, hon⟩ := C
  simp only [z_step] at hs
  split at hs
  · split at hs
    · rename_i hc
      cases hs
      exact lv_dup2_11 hx hb hd (by rw [z_cat_cv]; exact hc.1) (by rw [z_cat_cv]; exact hc.2) (kk _ _ _ _ _ hl hR hS rfl rfl)
    · cases hs
  · cases hs
theorem zn_41 (C : z_Ctx z ad ka D mi p R s m args meth c) (hl : z_loc ad arr ls) (hR : z_Rel z ad ka D G M H) (hE : z_Ext z ad s s.heap G M) (hS : va_S (z_A z) s.heap H locs) (hs : z_step 41 a b ls st G M = some (.inl (L, ls', st', G1, M1)))  (hd : decode (zz_cd mi) pc = .ok (.pop, 1)) (kk : z_go1 p l e R s m args below meth c Q z ad ka D G cells slots (pc + 1) ls' st' G1 M1) : W p l e R s m args below meth c H locs cells slots Q (F0 m pc arr (st.map (z_cv ad))) := by
  obtain ⟨hx, hb, hml, hrt, hown, hts, hlk, hfr, hlo, hK, hz, hnm, had, hon⟩ := C
  simp only [z_step] at hs
  split at hs
  · split at hs
    · rename_i hc
      cases hs
      exact lv_pop hx hb hd (by rw [z_cat_cv]; exact hc) (kk _ _ _ _ _ hl hR hS rfl rfl)
    · cases hs
  · cases hs
theorem zn_42 (C : z_Ctx z ad ka D mi p R s m args meth c) (hl : z_loc ad arr ls) (hR : z_Rel z ad ka D G M H) (hE : z_Ext z ad s s.heap G M) (hS : va_S (z_A z) s.heap H locs) (hs : z_step 42 a b ls st G M = some (.inl (L, ls', st', G1, M1))) (hbp : b = pc + 3) (hd : decode (zz_cd mi) pc = .ok (.if_icmp .eq ((a : Int) - (pc : Int)), 3)) (kk : ∀ t, L = some t → z_go1 p l e R s m args below meth c Q z ad ka D G cells slots t ls' st' G1 M1) : W p l e R s m args below meth c H locs cells slots Q (F0 m pc arr (st.map (z_cv ad))) := by
  obtain ⟨hx, hb, hml, hrt, hown, hts, hlk, hfr, hlo, hK, hz, hnm, had, hon⟩ := C
  subst hbp
  simp only [z_step] at hs
  split at hs
  · rename_i y x r
    refine lv_icmp_eq (tgt := a) hx hb hd (by omega) (fun hc => ?_) (fun hc => ?_)
    · rw [if_pos hc] at hs
      cases hs
      exact kk _ rfl _ _ _ _ _ hl hR hS rfl rfl
    · rw [if_neg hc] at hs
      cases hs
      exact kk _ rfl _ _ _ _ _ hl hR hS rfl rfl
  · cases hs
theorem zn_43 (C : z_Ctx z ad ka D mi p R s m args meth c) (hl : z_loc ad arr ls) (hR : z_Rel z ad ka D G M H) (hE : z_Ext z ad s s.heap G M) (hS : va_S (z_A z) s.heap H locs) (hs : z_step 43 a b ls st G M = some (.inl (L, ls', st', G1, M1))) (hbp : b = pc + 3) (hd : decode (zz_cd mi) pc = .ok (.if_icmp .ne ((a : Int) - (pc : Int)), 3)) (kk : ∀ t, L = some t → z_go1 p l e R s m args below meth c Q z ad ka D G cells slots t ls' st' G1 M1) : W p l e R s m args below meth c H locs cells slots Q (F0 m pc arr (st.map (z_cv ad))) := by
  obtain ⟨hx, hb, hml, hrt, hown, hts, hlk, hfr, hlo, hK, hz, hnm, had, hon⟩ := C
  subst hbp
  simp only [z_step] at hs
  split at hs
  · rename_i y x r
    refine lv_icmp_ne (tgt := a) hx hb hd (by omega) (fun hc => ?_) (fun hc => ?_)
    · rw [if_neg hc] at hs
      cases hs
      exact kk _ rfl _ _ _ _ _ hl hR hS rfl rfl
    · rw [if_pos hc] at hs
      cases hs
      exact kk _ rfl _ _ _ _ _ hl hR hS rfl rfl
  · cases hs
theorem zn_44 (C : z_Ctx z ad ka D mi p R s m args meth c) (hl : z_loc ad arr ls) (hR : z_Rel z ad ka D G M H) (hE : z_Ext z ad s s.heap G M) (hS : va_S (z_A z) s.heap H locs) (hs : z_step 44 a b ls st G M = some (.inl (L, ls', st', G1, M1))) (hbp : b = pc + 3) (hd : decode (zz_cd mi) pc = .ok (.if_icmp .lt ((a : Int) - (pc : Int)), 3)) (kk : ∀ t, L = some t → z_go1 p l e R s m args below meth c Q z ad ka D G cells slots t ls' st' G1 M1) : W p l e R s m args below meth c H locs cells slots Q (F0 m pc arr (st.map (z_cv ad))) := by
  obtain ⟨hx, hb, hml, hrt, hown, hts, hlk, hfr, hlo, hK, hz, hnm, had, hon⟩ := C
  subst hbp
  simp only [z_step] at hs
  split at hs
  · rename_i y x r
    refine lv_icmp_lt (tgt := a) hx hb hd (by omega) (fun hc => ?_) (fun hc => ?_)
    · rw [if_pos hc] at hs
      cases hs
      exact kk _ rfl _ _ _ _ _ hl hR hS rfl rfl
    · rw [if_neg hc] at hs
      cases hs
      exact kk _ rfl _ _ _ _ _ hl hR hS rfl rfl
  · cases hs
theorem zn_45 (C : z_Ctx z ad ka D mi p R s m args meth c) (hl : z_loc ad arr ls) (hR : z_Rel z ad ka D G M H) (hE : z_Ext z ad s s.heap G M) (hS : va_S (z_A z) s.heap H locs) (hs : z_step 45 a b ls st G M = some (.inl (L, ls', st', G1, M1))) (hbp : b = pc + 3) (hd : decode (zz_cd mi) pc = .ok (.if_icmp .ge ((a : Int) - (pc : Int)), 3)) (kk : ∀ t, L = some t → z_go1 p l e R s m args below meth c Q z ad ka D G cells slots t ls' st' G1 M1) : W p l e R s m args below meth c H locs cells slots Q (F0 m pc arr (st.map (z_cv ad))) := by
  obtain ⟨hx, hb, hml, hrt, hown, hts, hlk, hfr, hlo, hK, hz, hnm, had, hon⟩ := C
  subst hbp
  simp only [z_step] at hs
  split at hs
  · rename_i y x r
    refine lv_icmp_ge (tgt := a) hx hb hd (by omega) (fun hc => ?_) (fun hc => ?_)
    · rw [if_neg (Int32.not_lt.mpr hc)] at hs
      cases hs
      exact kk _ rfl _ _ _ _ _ hl hR hS rfl rfl
    · rw [if_pos (Int32.not_le.mp hc)] at hs
      cases hs
      exact kk _ rfl _ _ _ _ _ hl hR hS rfl rfl
  · cases hs
theorem zn_46 (C : z_Ctx z ad ka D mi p R s m args meth c) (hl : z_loc ad arr ls) (hR : z_Rel z ad ka D G M H) (hE : z_Ext z ad s s.heap G M) (hS : va_S (z_A z) s.heap H locs) (hs : z_step 46 a b ls st G M = some (.inl (L, ls', st', G1, M1))) (hbp : b = pc + 3) (hd : decode (zz_cd mi) pc = .ok (.if_icmp .gt ((a : Int) - (pc : Int)), 3)) (kk : ∀ t, L = some t → z_go1 p l e R s m args below meth c Q z ad ka D G cells slots t ls' st' G1 M1) : W p l e R s m args below meth c H locs cells slots Q (F0 m pc arr (st.map (z_cv ad))) := by
  obtain ⟨hx, hb, hml, hrt, hown, hts, hlk, hfr, hlo, hK, hz, hnm, had, hon⟩ := C
  subst hbp
  simp only [z_step] at hs
  split at hs
  · rename_i y x r
    refine lv_icmp_gt (tgt := a) hx hb hd (by omega) (fun hc => ?_) (fun hc => ?_)
    · rw [if_pos hc] at hs
      cases hs
      exact kk _ rfl _ _ _ _ _ hl hR hS rfl rfl
    · rw [if_neg hc] at hs
      cases hs
      exact kk _ rfl _ _ _ _ _ hl hR hS rfl rfl
  · cases hs
theorem zn_47 (C : z_Ctx z ad ka D mi p R s m args meth c) (hl : z_loc ad arr ls) (hR : z_Rel z ad ka D G M H) (hE : z_Ext z ad s s.heap G M) (hS : va_S (z_A z) s.heap H locs) (hs : z_step 47 a b ls st G M = some (.inl (L, ls', st', G1, M1))) (hbp : b = pc + 3) (hd : decode (zz_cd mi) pc = .ok (.if_icmp .le ((a : Int) - (pc : Int)), 3)) (kk : ∀ t, L = some t → z_go1 p l e R s m args below meth c Q z ad ka D G cells slots t ls' st' G1 M1) : W p l e R s m args below meth c H locs cells slots Q (F0 m pc arr (st.map (z_cv ad))) := by
  obtain ⟨hx, hb, hml, hrt, hown, hts, hlk, hfr, hlo, hK, hz, hnm, had, hon⟩ := C
  subst hbp
  simp only [z_step] at hs
  split at hs
  · rename_i y x r
    refine lv_icmp_le (tgt := a) hx hb hd (by omega) (fun hc => ?_) (fun hc => ?_)
    · rw [if_neg (Int32.not_lt.mpr hc)] at hs
      cases hs
      exact kk _ rfl _ _ _ _ _ hl hR hS rfl rfl
    · rw [if_pos (Int32.not_le.mp hc)] at hs
      cases hs
      exact kk _ rfl _ _ _ _ _ hl hR hS rfl rfl
  · cases hs
theorem zn_48 (C : z_Ctx z ad ka D mi p R s m args meth c) (hl : z_loc ad arr ls) (hR : z_Rel z ad ka D G M H) (hE : z_Ext z ad s s.heap G M) (hS : va_S (z_A z) s.heap H locs) (hs : z_step 48 a b ls st G M = some (.inl (L, ls', st', G1, M1))) (hbp : b = pc + 3) (hd : decode (zz_cd mi) pc = .ok (.ifCond .eq ((a : Int) - (pc : Int)), 3)) (kk : ∀ t, L = some t → z_go1 p l e R s m args below meth c Q z ad ka D G cells slots t ls' st' G1 M1) : W p l e R s m args below meth c H locs cells slots Q (F0 m pc arr (st.map (z_cv ad))) := by
  obtain ⟨hx, hb, hml, hrt, hown, hts, hlk, hfr, hlo, hK, hz, hnm, had, hon⟩ := C
  subst hbp
  simp only [z_step] at hs
  split at hs
  · rename_i x r
    refine lv_if_eq (tgt := a) hx hb hd (by omega) (fun hc => ?_) (fun hc => ?_)
    · rw [if_pos hc] at hs
      cases hs
      exact kk _ rfl _ _ _ _ _ hl hR hS rfl rfl
    · rw [if_neg hc] at hs
      cases hs
      exact kk _ rfl _ _ _ _ _ hl hR hS rfl rfl
  · cases hs
theorem zn_49 (C : z_Ctx z ad ka D mi p R s m args meth c) (hl : z_loc ad arr ls) (hR : z_Rel z ad ka D G M H) (hE : z_Ext z ad s s.heap G M) (hS : va_S (z_A z) s.heap H locs) (hs : z_step 49 a b ls st G M = some (.inl (L, ls', st', G1, M1))) (hbp : b = pc + 3) (hd : decode (zz_cd mi) pc = .ok (.ifCond .ne ((a : Int) - (pc : Int)), 3)) (kk : ∀ t, L = some t → z_go1 p l e R s m args below meth c Q z ad ka D G cells slots t ls' st' G1 M1) : W p l e R s m args below meth c H locs cells slots Q (F0 m pc arr (st.map (z_cv ad))) := by
  obtain ⟨hx, hb, hml, hrt, hown, hts, hlk, hfr, hlo, hK, hz, hnm, had, hon⟩ := C
  subst hbp
  simp only [z_step] at hs
  split at hs
  · rename_i x r
    refine lv_if_ne (tgt := a) hx hb hd (by omega) (fun hc => ?_) (fun hc => ?_)
    · rw [if_neg hc] at hs
      cases hs
      exact kk _ rfl _ _ _ _ _ hl hR hS rfl rfl
    · rw [if_pos hc] at hs
      cases hs
      exact kk _ rfl _ _ _ _ _ hl hR hS rfl rfl
  · cases hs
theorem zn_50 (C : z_Ctx z ad ka D mi p R s m args meth c) (hl : z_loc ad arr ls) (hR : z_Rel z ad ka D G M H) (hE : z_Ext z ad s s.heap G M) (hS : va_S (z_A z) s.heap H locs) (hs : z_step 50 a b ls st G M = some (.inl (L, ls', st', G1, M1))) (hbp : b = pc + 3) (hd : decode (zz_cd mi) pc = .ok (.ifCond .lt ((a : Int) - (pc : Int)), 3)) (kk : ∀ t, L = some t → z_go1 p l e R s m args below meth c Q z ad ka D G cells slots t ls' st' G1 M1) : W p l e R s m args below meth c H locs cells slots Q (F0 m pc arr (st.map (z_cv ad))) := by
  obtain ⟨hx, hb, hml, hrt, hown, hts, hlk, hfr, hlo, hK, hz, hnm, had, hon⟩ := C
  subst hbp
  simp only [z_step] at hs
  split at hs
  · rename_i x r
    refine lv_if_lt (tgt := a) hx hb hd (by omega) (fun hc => ?_) (fun hc => ?_)
    · rw [if_pos hc] at hs
      cases hs
      exact kk _ rfl _ _ _ _ _ hl hR hS rfl rfl
    · rw [if_neg hc] at hs
      cases hs
      exact kk _ rfl _ _ _ _ _ hl hR hS rfl rfl
  · cases hs
theorem zn_51 (C : z_Ctx z ad ka D mi p R s m args meth c) (hl : z_loc ad arr ls) (hR : z_Rel z ad ka D G M H) (hE : z_Ext z ad s s.heap G M) (hS : va_S (z_A z) s.heap H locs) (hs : z_step 51 a b ls st G M = some (.inl (L, ls', st', G1, M1))) (hbp : b = pc + 3) (hd : decode (zz_cd mi) pc = .ok (.ifCond .ge ((a : Int) - (pc : Int)), 3)) (kk : ∀ t, L = some t → z_go1 p l e R s m args below meth c Q z ad ka D G cells slots t ls' st' G1 M1) : W p l e R s m args below meth c H locs cells slots Q (F0 m pc arr (st.map (z_cv ad))) := by
  obtain ⟨hx, hb, hml, hrt, hown, hts, hlk, hfr, hlo, hK, hz, hnm, had, hon⟩ := C
  subst hbp
  simp only [z_step] at hs
  split at hs
  · rename_i x r
    refine lv_if_ge (tgt := a) hx hb hd (by omega) (fun hc => ?_) (fun hc => ?_)
    · rw [if_neg (Int32.not_lt.mpr hc)] at hs
      cases hs
      exact kk _ rfl _ _ _ _ _ hl hR hS rfl rfl
    · rw [if_pos (Int32.not_le.mp hc)] at hs
      cases hs
      exact kk _ rfl _ _ _ _ _ hl hR hS rfl rfl
  · cases hs
theorem zn_52 (C : z_Ctx z ad ka D mi p R s m args meth c) (hl : z_loc ad arr ls) (hR : z_Rel z ad ka D G M H) (hE : z_Ext z ad s s.heap G M) (hS : va_S (z_A z) s.heap H locs) (hs : z_step 52 a b ls st G M = some (.inl (L, ls', st', G1, M1))) (hbp : b = pc + 3) (hd : decode (zz_cd mi) pc = .ok (.ifCond .gt ((a : Int) - (pc : Int)), 3)) (kk : ∀ t, L = some t → z_go1 p l e R s m args below meth c Q z ad ka D G cells slots t ls' st' G1 M1) : W p l e R s m args below meth c H locs cells slots Q (F0 m pc arr (st.map (z_cv ad))) := by
  obtain ⟨hx, hb, hml, hrt, hown, hts, hlk, hfr, hlo, hK, hz, hnm, had, hon⟩ := C
  subst hbp
  simp only [z_step] at hs
  split at hs
  · rename_i x r
    refine lv_if_gt (tgt := a) hx hb hd (by omega) (fun hc => ?_) (fun hc => ?_)
    · rw [if_pos hc] at hs
      cases hs
      exact kk _ rfl _ _ _ _ _ hl hR hS rfl rfl
    · rw [if_neg hc] at hs
      cases hs
      exact kk _ rfl _ _ _ _ _ hl hR hS rfl rfl
  · cases hs
theorem zn_53 (C : z_Ctx z ad ka D mi p R s m args meth c) (hl : z_loc ad arr ls) (hR : z_Rel z ad ka D G M H) (hE : z_Ext z ad s s.heap G M) (hS : va_S (z_A z) s.heap H locs) (hs : z_step 53 a b ls st G M = some (.inl (L, ls', st', G1, M1))) (hbp : b = pc + 3) (hd : decode (zz_cd mi) pc = .ok (.ifCond .le ((a : Int) - (pc : Int)), 3)) (kk : ∀ t, L = some t → z_go1 p l e R s m args below meth c Q z ad ka D G cells slots t ls' st' G1 M1) : W p l e R s m args below meth c H locs cells slots Q (F0 m pc arr (st.map (z_cv ad))) := by
  obtain ⟨hx, hb, hml, hrt, hown, hts, hlk, hfr, hlo, hK, hz, hnm, had, hon⟩ := C
  subst hbp
  simp only [z_step] at hs
  split at hs
  · rename_i x r
    refine lv_if_le (tgt := a) hx hb hd (by omega) (fun hc => ?_) (fun hc => ?_)
    · rw [if_neg (Int32.not_lt.mpr hc)] at hs
      cases hs
      exact kk _ rfl _ _ _ _ _ hl hR hS rfl rfl
    · rw [if_pos (Int32.not_le.mp hc)] at hs
      cases hs
      exact kk _ rfl _ _ _ _ _ hl hR hS rfl rfl
  · cases hs
theorem zn_54 (C : z_Ctx z ad ka D mi p R s m args meth c) (hl : z_loc ad arr ls) (hR : z_Rel z ad ka D G M H) (hE : z_Ext z ad s s.heap G M) (hS : va_S (z_A z) s.heap H locs) (hs : z_step 54 a b ls st G M = some (.inl (L, ls', st', G1, M1))) (hd : decode (zz_cd mi) pc = .ok (.goto ((a : Int) - (pc : Int)), 3)) (kk : ∀ t, L = some t → z_go1 p l e R s m args below meth c Q z ad ka D G cells slots t ls' st' G1 M1) : W p l e R s m args below meth c H locs cells slots Q (F0 m pc arr (st.map (z_cv ad))) := by
  obtain ⟨hx, hb, hml, hrt, hown, hts, hlk, hfr, hlo, hK, hz, hnm, had, hon⟩ := C
  cases hs
  exact lv_goto (tgt := a) hx hb hd (by omega) (kk _ rfl _ _ _ _ _ hl hR hS rfl rfl)
theorem zn_55 (C : z_Ctx z ad ka D mi p R s m args meth c) (hl : z_loc ad arr ls) (hR : z_Rel z ad ka D G M H) (hE : z_Ext z ad s s.heap G M) (hS : va_S (z_A z) s.heap H locs) (hs : z_step 55 a b ls st G M = some (.inl (L, ls', st', G1, M1))) (ha : a = pc) (kk : ∀ t, L = some t → z_go1 p l e R s m args below meth c Q z ad ka D G cells slots t ls' st' G1 M1) : W p l e R s m args below meth c H locs cells slots Q (F0 m pc arr (st.map (z_cv ad))) := by
  cases hs
  subst ha
  exact kk _ rfl _ _ _ _ _ hl hR hS rfl rfl
theorem zn_57 (C : z_Ctx z ad ka D mi p R s m args meth c) (hl : z_loc ad arr ls) (hR : z_Rel z ad ka D G M H) (hE : z_Ext z ad s s.heap G M) (hS : va_S (z_A z) s.heap H locs) (hs : z_step 57 a b ls st G M = some (.inl (L, ls', st', G1, M1)))  (hd : decode (zz_cd mi) pc = .ok (.i2l, 1)) (kk : z_go1 p l e R s m args below meth c Q z ad ka D G cells slots (pc + 1) ls' st' G1 M1) : W p l e R s m args below meth c H locs cells slots Q (F0 m pc arr (st.map (z_cv ad))) := by
  obtain ⟨hx, hb, hml, hrt, hown, hts, hlk, hfr, hlo, hK, hz, hnm, had, hon⟩ := C
  simp only [z_step] at hs
  split at hs
  · cases hs
    exact lv_i2l hx hb hd rfl (kk _ _ _ _ _ hl hR hS rfl rfl)
  · cases hs
theorem zn_58 (C : z_Ctx z ad ka D mi p R s m args meth c) (hl : z_loc ad arr ls) (hR : z_Rel z ad ka D G M H) (hE : z_Ext z ad s s.heap G M) (hS : va_S (z_A z) s.heap H locs) (hs : z_step 58 a b ls st G M = some (.inl (L, ls', st', G1, M1)))  (hd : decode (zz_cd mi) pc = .ok (.ladd, 1)) (kk : z_go1 p l e R s m args below meth c Q z ad ka D G cells slots (pc + 1) ls' st' G1 M1) : W p l e R s m args below meth c H locs cells slots Q (F0 m pc arr (st.map (z_cv ad))) := by
  obtain ⟨hx, hb, hml, hrt, hown, hts, hlk, hfr, hlo, hK, hz, hnm, had, hon⟩ := C
  simp only [z_step] at hs
  split at hs
  · cases hs
    exact lv_ladd hx hb hd (kk _ _ _ _ _ hl hR hS rfl rfl)
  · cases hs
theorem zn_59 (C : z_Ctx z ad ka D mi p R s m args meth c) (hl : z_loc ad arr ls) (hR : z_Rel z ad ka D G M H) (hE : z_Ext z ad s s.heap G M) (hS : va_S (z_A z) s.heap H locs) (hs : z_step 59 a b ls st G M = some (.inl (L, ls', st', G1, M1)))  (hd : decode (zz_cd mi) pc = .ok (.lmul, 1)) (kk : z_go1 p l e R s m args below meth c Q z ad ka D G cells slots (pc + 1) ls' st' G1 M1) : W p l e R s m args below meth c H locs cells slots Q (F0 m pc arr (st.map (z_cv ad))) := by
  obtain ⟨hx, hb, hml, hrt, hown, hts, hlk, hfr, hlo, hK, hz, hnm, had, hon⟩ := C
  simp only [z_step] at hs
  split at hs
  · cases hs
    exact lv_lmul hx hb hd (kk _ _ _ _ _ hl hR hS rfl rfl)
  · cases hs
theorem zn_60 (C : z_Ctx z ad ka D mi p R s m args meth c) (hl : z_loc ad arr ls) (hR : z_Rel z ad ka D G M H) (hE : z_Ext z ad s s.heap G M) (hS : va_S (z_A z) s.heap H locs) (hs : z_step 60 a b ls st G M = some (.inl (L, ls', st', G1, M1)))  (hd : decode (zz_cd mi) pc = .ok (.lcmp, 1)) (kk : z_go1 p l e R s m args below meth c Q z ad ka D G cells slots (pc + 1) ls' st' G1 M1) : W p l e R s m args below meth c H locs cells slots Q (F0 m pc arr (st.map (z_cv ad))) := by
  obtain ⟨hx, hb, hml, hrt, hown, hts, hlk, hfr, hlo, hK, hz, hnm, had, hon⟩ := C
  simp only [z_step] at hs
  split at hs
  · rename_i y x r
    cases hs
    exact W.lcmp hx hb hd (by rw [← z_cmpl_eq]; exact kk _ _ _ _ _ hl hR hS rfl rfl)
  · cases hs
theorem zn_61 (C : z_Ctx z ad ka D mi p R s m args meth c) (hl : z_loc ad arr ls) (hR : z_Rel z ad ka D G M H) (hE : z_Ext z ad s s.heap G M) (hS : va_S (z_A z) s.heap H locs) (hs : z_step 61 a b ls st G M = some (.inl (L, ls', st', G1, M1))) (ha : (z_ow mi, cp, a) ∈ z_tl) (hd : decode (zz_cd mi) pc = .ok (.ldc2_w cp, 3)) (kk : z_go1 p l e R s m args below meth c Q z ad ka D G cells slots (pc + 3) ls' st' G1 M1) : W p l e R s m args below meth c H locs cells slots Q (F0 m pc arr (st.map (z_cv ad))) := by
  obtain ⟨hx, hb, hml, hrt, hown, hts, hlk, hfr, hlo, hK, hz, hnm, had, hon⟩ := C
  cases hs
  exact lv_ldc2 hx hb hown (hts _ (z_tl_ok _ ha)) hd (kk _ _ _ _ _ hl hR hS rfl rfl)
theorem zn_62 (C : z_Ctx z ad ka D mi p R s m args meth c) (hl : z_loc ad arr ls) (hR : z_Rel z ad ka D G M H) (hE : z_Ext z ad s s.heap G M) (hS : va_S (z_A z) s.heap H locs) (hs : z_step 62 a b ls st G M = some (.inl (L, ls', st', G1, M1))) (ha : a < 2) (hd : decode (zz_cd mi) pc = .ok (.lconst (Fin.ofNat 2 a), 1)) (kk : z_go1 p l e R s m args below meth c Q z ad ka D G cells slots (pc + 1) ls' st' G1 M1) : W p l e R s m args below meth c H locs cells slots Q (F0 m pc arr (st.map (z_cv ad))) := by
  obtain ⟨hx, hb, hml, hrt, hown, hts, hlk, hfr, hlo, hK, hz, hnm, had, hon⟩ := C
  cases hs
  exact lv_lconst hx hb hd (by show Int64.ofNat (a % 2) = Int64.ofNat a; rw [Nat.mod_eq_of_lt ha]) (kk _ _ _ _ _ hl hR hS rfl rfl)
end
