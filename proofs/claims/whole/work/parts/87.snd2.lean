/-! ===== the small machine's steps are the real machine's: what reads and writes the heap ===== -/
section
variable {p : Program} {l : Launch} {e : Env} {R : Room} {s : State} {m : MethodId} {args : Array Value} {below : List Frame} {meth : Method} {c : Code} {H : Heap} {locs : List Loc} {cells slots : Nat} {Q : State → Prop}
variable {z : Nat} {ad : Nat → Nat} {ka : Nat → ClassId} {D : va_G} {mi a b cp pc : Nat} {ls st : List Value} {G : zG} {M : zM} {L : Option Nat} {ls' st' : List Value} {G1 : zG} {M1 : zM} {arr : Array Slot}
theorem z_cell_setR (ad : Nat → Nat) (ka : Nat → ClassId) {G : zG} (M : zM) {q k x q2 : Nat} (h : q2 ≠ q) : z_cell ad ka (z_setR G q k x) M q2 = z_cell ad ka G M q2 := by
  have e : z_rf (z_setR G q k x) q2 = z_rf G q2 := by funext j; simp [z_rf, z_setR, h]
  unfold z_cell
  rw [e]
  rfl
theorem z_cell_setL (ad : Nat → Nat) (ka : Nat → ClassId) {G : zG} (M : zM) {q k : Nat} {x : Int64} {q2 : Nat} (h : q2 ≠ q) : z_cell ad ka (z_setL G q k x) M q2 = z_cell ad ka G M q2 := by
  have e : z_lg (z_setL G q k x) q2 = z_lg G q2 := by funext j; simp [z_lg, z_setL, h]
  unfold z_cell
  rw [e]
  rfl
theorem z_size {g : JFrame} (k : H.size ≤ s.heap.size + cells → W p l e R s m args below meth c H locs cells slots Q g) : W p l e R s m args below meth c H locs cells slots Q g := fun T hT X => k (by rw [← hT]; exact X.heapSize) T hT X
theorem zn_16 (C : z_Ctx z ad ka D mi p R s m args meth c) (hl : z_loc ad arr ls) (hR : z_Rel z ad ka D G M H) (hE : z_Ext z ad s s.heap G M) (hS : va_S (z_A z) s.heap H locs) (hs : z_step 16 a b ls st G M = some (.inl (L, ls', st', G1, M1))) (ha : (z_ow mi, cp, a, b) ∈ z_tf ∧ a < 8 ∧ b < z_nf a ∧ z_isR a b = false) (hd : decode (zz_cd mi) pc = .ok (.getfield cp, 3)) (kk : z_go1 p l e R s m args below meth c Q z ad ka D G cells slots (pc + 3) ls' st' G1 M1) : W p l e R s m args below meth c H locs cells slots Q (F0 m pc arr (st.map (z_cv ad))) := by
  obtain ⟨hx, hb, hml, hrt, hown, hts, hlk, hfr, hlo, hK, hz, hnm, had, hon⟩ := C
  simp only [z_step] at hs
  split at hs
  · rename_i q r
    split at hs
    · rename_i hc
      cases hs
      obtain ⟨c1, c2, -, -, -⟩ := z_cok ha.2.1
      have he := z_at hR had hc.2 (by rw [hc.1]; exact fun h => by cases h)
      rw [z_cell_obj hc.1] at he
      exact va_get (C := z_Cn a) (T := z_CT a) (N := z_nf a) hx hb hts c2 hown hK hR.1 (q - 32) he c1 b ha.2.2.1 (hts _ (z_tf_ok _ ha.1)) (fun _ h => h) (by rw [z_fs_at ad _ _ ha.2.2.1, ha.2.2.2]; rfl) hd (kk _ _ _ _ _ hl hR hS rfl rfl)
    · cases hs
  · cases hs
theorem zn_17 (C : z_Ctx z ad ka D mi p R s m args meth c) (hl : z_loc ad arr ls) (hR : z_Rel z ad ka D G M H) (hE : z_Ext z ad s s.heap G M) (hS : va_S (z_A z) s.heap H locs) (hs : z_step 17 a b ls st G M = some (.inl (L, ls', st', G1, M1))) (ha : (z_ow mi, cp, a, b) ∈ z_tf ∧ a < 8 ∧ b < z_nf a ∧ z_isR a b = true) (hd : decode (zz_cd mi) pc = .ok (.getfield cp, 3)) (kk : z_go1 p l e R s m args below meth c Q z ad ka D G cells slots (pc + 3) ls' st' G1 M1) : W p l e R s m args below meth c H locs cells slots Q (F0 m pc arr (st.map (z_cv ad))) := by
  obtain ⟨hx, hb, hml, hrt, hown, hts, hlk, hfr, hlo, hK, hz, hnm, had, hon⟩ := C
  simp only [z_step] at hs
  split at hs
  · rename_i q r
    split at hs
    · rename_i hc
      cases hs
      obtain ⟨c1, c2, -, -, -⟩ := z_cok ha.2.1
      have he := z_at hR had hc.1.2 (by rw [hc.1.1]; exact fun h => by cases h)
      rw [z_cell_obj hc.1.1] at he
      exact va_get (C := z_Cn a) (T := z_CT a) (N := z_nf a) (v := .ref (ad (z_rf G q b))) hx hb hts c2 hown hK hR.1 (q - 32) he c1 b ha.2.2.1 (hts _ (z_tf_ok _ ha.1)) (fun _ h => h) (by rw [z_fs_at ad _ _ ha.2.2.1, ha.2.2.2]; simp [z_ro, hc.2, va_rf]) hd (kk _ _ _ _ _ hl hR hS rfl rfl)
    · cases hs
  · cases hs
theorem zn_18 (C : z_Ctx z ad ka D mi p R s m args meth c) (hl : z_loc ad arr ls) (hR : z_Rel z ad ka D G M H) (hE : z_Ext z ad s s.heap G M) (hS : va_S (z_A z) s.heap H locs) (hs : z_step 18 a b ls st G M = some (.inl (L, ls', st', G1, M1))) (ha : (z_ow mi, cp, a, b) ∈ z_tf ∧ a < 8 ∧ b < z_nf a ∧ z_isR a b = false ∧ ((z_CT a b).2.2.2 = true → (z_y mi).name = "<init>" ∧ z_Cn a = (z_y mi).cls)) (hd : decode (zz_cd mi) pc = .ok (.putfield cp, 3)) (kk : z_go1 p l e R s m args below meth c Q z ad ka D G cells slots (pc + 3) ls' st' G1 M1) : W p l e R s m args below meth c H locs cells slots Q (F0 m pc arr (st.map (z_cv ad))) := by
  obtain ⟨hx, hb, hml, hrt, hown, hts, hlk, hfr, hlo, hK, hz, hnm, had, hon⟩ := C
  simp only [z_step] at hs
  split at hs
  · rename_i x q r
    split at hs
    · rename_i hc
      cases hs
      obtain ⟨c1, c2, c3, c4, c5⟩ := z_cok ha.2.1
      have hk9 : (z_kd G q).1 ≠ 9 := by rw [hc.1]; exact fun h => by cases h
      have he := z_at hR had hc.2 hk9
      rw [z_cell_obj hc.1] at he
      have kr : ∀ (H1 : Heap) (locs1 : List Loc), va_P D z_cl ((z_ws z ad ka G M).set (q - 32) (ad q, .inr (a, (z_fs ad a (z_rf G q) (M q)).set b (.int x)))) H1 → va_D (z_A z) ((z_ws z ad ka G M).set (q - 32) (ad q, .inr (a, (z_fs ad a (z_rf G q) (M q)).set b (.int x)))) → va_S (z_A z) s.heap H1 locs1 → W p l e R s m args below meth c H1 locs1 cells slots Q (F0 m (pc + 3) arr (st'.map (z_cv ad))) := by
        intro H1 locs1 hP1 _ hS1
        refine kk _ _ _ _ _ hl (hR.one (G1 := G) (M1 := (z_sA M q (z_u (M q) b x))) had hc.2 hk9 rfl rfl ?_ ?_) hS1 rfl rfl
        · intro q2 h2
          simp [z_cell, z_sA, h2]
        · rw [z_cell_obj (show z_kd G q = (0, a) from hc.1), z_sA_s, ← z_fs_setI ad _ _ _ ha.2.2.1 ha.2.2.2.1]
          exact hP1
      cases hfin : (z_CT a b).2.2.2 with
      | false =>
        have hd0 : parseFieldDescriptor (z_CT a b).2.2.1 = some .int := by rw [c3 b ha.2.2.1, (c5 b ha.2.2.1).2.1 ha.2.2.2.1]
        exact va_put (C := z_Cn a) (T := z_CT a) (N := z_nf a) hx hb hts c2 (z_Cty a) c3 c4 hown hK hR.1 (z_ws_D z ad ka G M) hS (q - 32) he c1 b ha.2.2.1 (hts _ (z_tf_ok _ ha.1)) (fun _ h => h) hfin hd0 rfl rfl (by rw [z_fs_len]; exact ha.2.2.1) hd kr
      | true =>
        have hd0 : parseFieldDescriptor (z_CT a b).2.2.1 = some .int := by rw [c3 b ha.2.2.1, (c5 b ha.2.2.1).2.1 ha.2.2.2.1]
        obtain ⟨i1, i2⟩ := ha.2.2.2.2 hfin
        exact va_putF (C := z_Cn a) (T := z_CT a) (N := z_nf a) hx hb hts c2 (z_Cty a) c3 c4 hown hK hR.1 (z_ws_D z ad ka G M) hS (q - 32) he c1 b ha.2.2.1 (hts _ (z_tf_ok _ ha.1)) (fun _ h => h) hfin (hnm.trans i1) (by rw [(c5 b ha.2.2.1).1, i2]; exact hon.symm) hd0 rfl rfl (by rw [z_fs_len]; exact ha.2.2.1) hd kr
    · cases hs
  · cases hs
theorem zn_19 (C : z_Ctx z ad ka D mi p R s m args meth c) (hl : z_loc ad arr ls) (hR : z_Rel z ad ka D G M H) (hE : z_Ext z ad s s.heap G M) (hS : va_S (z_A z) s.heap H locs) (hs : z_step 19 a b ls st G M = some (.inl (L, ls', st', G1, M1))) (ha : (z_ow mi, cp, a, b) ∈ z_tf ∧ a < 8 ∧ b < z_nf a ∧ z_isR a b = true ∧ ((z_CT a b).2.2.2 = true → (z_y mi).name = "<init>" ∧ z_Cn a = (z_y mi).cls)) (hd : decode (zz_cd mi) pc = .ok (.putfield cp, 3)) (kk : z_go1 p l e R s m args below meth c Q z ad ka D G cells slots (pc + 3) ls' st' G1 M1) : W p l e R s m args below meth c H locs cells slots Q (F0 m pc arr (st.map (z_cv ad))) := by
  obtain ⟨hx, hb, hml, hrt, hown, hts, hlk, hfr, hlo, hK, hz, hnm, had, hon⟩ := C
  simp only [z_step] at hs
  split at hs
  · rename_i x q r
    split at hs
    · rename_i hc
      cases hs
      obtain ⟨c1, c2, c3, c4, c5⟩ := z_cok ha.2.1
      have hk9 : (z_kd G q).1 ≠ 9 := by rw [hc.1.1]; exact fun h => by cases h
      have he := z_at hR had hc.1.2 hk9
      rw [z_cell_obj hc.1.1] at he
      have kr : ∀ (H1 : Heap) (locs1 : List Loc), va_P D z_cl ((z_ws z ad ka G M).set (q - 32) (ad q, .inr (a, (z_fs ad a (z_rf G q) (M q)).set b (.ref (ad x))))) H1 → va_D (z_A z) ((z_ws z ad ka G M).set (q - 32) (ad q, .inr (a, (z_fs ad a (z_rf G q) (M q)).set b (.ref (ad x))))) → va_S (z_A z) s.heap H1 locs1 → W p l e R s m args below meth c H1 locs1 cells slots Q (F0 m (pc + 3) arr (st'.map (z_cv ad))) := by
        intro H1 locs1 hP1 _ hS1
        refine kk _ _ _ _ _ hl (hR.one (G1 := (z_setR G q b x)) (M1 := M) had hc.1.2 hk9 rfl rfl ?_ ?_) hS1 rfl rfl
        · intro q2 h2
          exact z_cell_setR ad ka M h2
        · have e1 : z_cell ad ka (z_setR G q b x) M q = .inr (a, z_fs ad a (fun j => if j = b then x else z_rf G q j) (M q)) := by
            rw [z_cell_obj (show z_kd (z_setR G q b x) q = (0, a) from hc.1.1)]
            have e0 : z_rf (z_setR G q b x) q = (fun j => if j = b then x else z_rf G q j) := by funext j; simp [z_rf, z_setR]
            rw [e0]
          rw [e1, ← z_fs_setR ad _ _ ha.2.2.1 ha.2.2.2.1 hc.2]
          exact hP1
      cases hfin : (z_CT a b).2.2.2 with
      | false =>
        have hd0 := c3 b ha.2.2.1
        have hn0 : narrow (z_Cty a b) (.ref (ad x)) = .ref (ad x) ∧ fits (z_Cty a b) (.ref (ad x)) = true := by
          rcases (c5 b ha.2.2.1).2.2 ha.2.2.2.1 with ⟨C0, h0⟩ | ⟨t0, h0⟩ <;> rw [h0] <;> exact ⟨rfl, rfl⟩
        exact va_put (C := z_Cn a) (T := z_CT a) (N := z_nf a) hx hb hts c2 (z_Cty a) c3 c4 hown hK hR.1 (z_ws_D z ad ka G M) hS (q - 32) he c1 b ha.2.2.1 (hts _ (z_tf_ok _ ha.1)) (fun _ h => h) hfin hd0 hn0.1 hn0.2 (by rw [z_fs_len]; exact ha.2.2.1) hd kr
      | true =>
        have hd0 := c3 b ha.2.2.1
        have hn0 : narrow (z_Cty a b) (.ref (ad x)) = .ref (ad x) ∧ fits (z_Cty a b) (.ref (ad x)) = true := by
          rcases (c5 b ha.2.2.1).2.2 ha.2.2.2.1 with ⟨C0, h0⟩ | ⟨t0, h0⟩ <;> rw [h0] <;> exact ⟨rfl, rfl⟩
        obtain ⟨i1, i2⟩ := ha.2.2.2.2 hfin
        exact va_putF (C := z_Cn a) (T := z_CT a) (N := z_nf a) hx hb hts c2 (z_Cty a) c3 c4 hown hK hR.1 (z_ws_D z ad ka G M) hS (q - 32) he c1 b ha.2.2.1 (hts _ (z_tf_ok _ ha.1)) (fun _ h => h) hfin (hnm.trans i1) (by rw [(c5 b ha.2.2.1).1, i2]; exact hon.symm) hd0 hn0.1 hn0.2 (by rw [z_fs_len]; exact ha.2.2.1) hd kr
    · cases hs
  · cases hs
theorem zn_32 (C : z_Ctx z ad ka D mi p R s m args meth c) (hl : z_loc ad arr ls) (hR : z_Rel z ad ka D G M H) (hE : z_Ext z ad s s.heap G M) (hS : va_S (z_A z) s.heap H locs) (hs : z_step 32 a b ls st G M = some (.inl (L, ls', st', G1, M1)))  (hd : decode (zz_cd mi) pc = .ok (.iaload, 1)) (kk : z_go1 p l e R s m args below meth c Q z ad ka D G cells slots (pc + 1) ls' st' G1 M1) : W p l e R s m args below meth c H locs cells slots Q (F0 m pc arr (st.map (z_cv ad))) := by
  obtain ⟨hx, hb, hml, hrt, hown, hts, hlk, hfr, hlo, hK, hz, hnm, had, hon⟩ := C
  simp only [z_step] at hs
  split at hs
  · rename_i i q r
    split at hs
    · rename_i hc
      cases hs
      by_cases h32 : 32 ≤ q
      · have he := z_at hR had h32 (by rw [hc.1]; exact fun h => by cases h)
        rw [z_cell_int hc.1] at he
        exact va_iald hx hb hK hR.1 (q - 32) 0 he rfl (z_vp hc.2) hd (kk _ _ _ _ _ hl hR hS rfl rfl)
      · exact va_ti (f := fun j => .int (M q j)) hx hb (hE q (Nat.not_le.mp h32) hc.1) hS (z_vp hc.2) rfl hd (kk _ _ _ _ _ hl hR hS rfl rfl)
    · cases hs
  · cases hs
theorem zn_36 (C : z_Ctx z ad ka D mi p R s m args meth c) (hl : z_loc ad arr ls) (hR : z_Rel z ad ka D G M H) (hE : z_Ext z ad s s.heap G M) (hS : va_S (z_A z) s.heap H locs) (hs : z_step 36 a b ls st G M = some (.inl (L, ls', st', G1, M1)))  (hd : decode (zz_cd mi) pc = .ok (.arraylength, 1)) (kk : z_go1 p l e R s m args below meth c Q z ad ka D G cells slots (pc + 1) ls' st' G1 M1) : W p l e R s m args below meth c H locs cells slots Q (F0 m pc arr (st.map (z_cv ad))) := by
  obtain ⟨hx, hb, hml, hrt, hown, hts, hlk, hfr, hlo, hK, hz, hnm, had, hon⟩ := C
  simp only [z_step] at hs
  split at hs
  · rename_i q r
    split at hs
    · rename_i hc
      cases hs
      by_cases h32 : 32 ≤ q
      · have he := z_at hR had h32 (by rw [hc]; exact fun h => by cases h)
        rw [z_cell_int hc] at he
        exact va_alen hx hb hK hR.1 (q - 32) 0 he (ty := .int) rfl rfl hd (kk _ _ _ _ _ hl hR hS rfl rfl)
      · exact va_tlen hx hb (hE q (Nat.not_le.mp h32) hc) hS rfl hd (kk _ _ _ _ _ hl hR hS rfl rfl)
    · cases hs
  · cases hs
theorem zn_33 (C : z_Ctx z ad ka D mi p R s m args meth c) (hl : z_loc ad arr ls) (hR : z_Rel z ad ka D G M H) (hE : z_Ext z ad s s.heap G M) (hS : va_S (z_A z) s.heap H locs) (hs : z_step 33 a b ls st G M = some (.inl (L, ls', st', G1, M1)))  (hd : decode (zz_cd mi) pc = .ok (.iastore, 1)) (kk : z_go1 p l e R s m args below meth c Q z ad ka D G cells slots (pc + 1) ls' st' G1 M1) : W p l e R s m args below meth c H locs cells slots Q (F0 m pc arr (st.map (z_cv ad))) := by
  obtain ⟨hx, hb, hml, hrt, hown, hts, hlk, hfr, hlo, hK, hz, hnm, had, hon⟩ := C
  simp only [z_step] at hs
  split at hs
  · rename_i x i q r
    split at hs
    · rename_i hc
      cases hs
      have hk9 : (z_kd G q).1 ≠ 9 := by rw [hc.1.1]; exact fun h => by cases h
      have he := z_at hR had hc.1.2 hk9
      rw [z_cell_int hc.1.1] at he
      refine va_iast hx hb hK hR.1 (z_ws_D z ad ka G M) hS (q - 32) 0 he rfl (z_vp hc.2) hd (fun H1 locs1 hP1 _ hS1 => ?_)
      refine kk _ _ _ _ _ hl (hR.one (G1 := G) (M1 := z_sA M q (z_u (M q) i.toNatClampNeg x)) had hc.1.2 hk9 rfl rfl ?_ ?_) hS1 rfl rfl
      · intro q2 h2
        simp [z_cell, z_sA, h2]
      · rw [z_cell_int hc.1.1, z_sA_s]
        exact hP1
    · cases hs
  · cases hs
theorem zn_37 (C : z_Ctx z ad ka D mi p R s m args meth c) (hl : z_loc ad arr ls) (hR : z_Rel z ad ka D G M H) (hE : z_Ext z ad s s.heap G M) (hS : va_S (z_A z) s.heap H locs) (hs : z_step 37 a b ls st G M = some (.inl (L, ls', st', G1, M1)))  (hd : decode (zz_cd mi) pc = .ok (.laload, 1)) (kk : z_go1 p l e R s m args below meth c Q z ad ka D G cells slots (pc + 1) ls' st' G1 M1) : W p l e R s m args below meth c H locs cells slots Q (F0 m pc arr (st.map (z_cv ad))) := by
  obtain ⟨hx, hb, hml, hrt, hown, hts, hlk, hfr, hlo, hK, hz, hnm, had, hon⟩ := C
  simp only [z_step] at hs
  split at hs
  · rename_i i q r
    split at hs
    · rename_i hc
      cases hs
      have he := z_at hR had hc.1.2 (by rw [hc.1.1]; exact fun h => by cases h)
      rw [z_cell_long hc.1.1] at he
      exact va_lald hx hb hK hR.1 (q - 32) 1 he rfl (z_vp hc.2) hd (kk _ _ _ _ _ hl hR hS rfl rfl)
    · cases hs
  · cases hs
theorem zn_38 (C : z_Ctx z ad ka D mi p R s m args meth c) (hl : z_loc ad arr ls) (hR : z_Rel z ad ka D G M H) (hE : z_Ext z ad s s.heap G M) (hS : va_S (z_A z) s.heap H locs) (hs : z_step 38 a b ls st G M = some (.inl (L, ls', st', G1, M1)))  (hd : decode (zz_cd mi) pc = .ok (.lastore, 1)) (kk : z_go1 p l e R s m args below meth c Q z ad ka D G cells slots (pc + 1) ls' st' G1 M1) : W p l e R s m args below meth c H locs cells slots Q (F0 m pc arr (st.map (z_cv ad))) := by
  obtain ⟨hx, hb, hml, hrt, hown, hts, hlk, hfr, hlo, hK, hz, hnm, had, hon⟩ := C
  simp only [z_step] at hs
  split at hs
  · rename_i x i q r
    split at hs
    · rename_i hc
      cases hs
      have hk9 : (z_kd G q).1 ≠ 9 := by rw [hc.1.1]; exact fun h => by cases h
      have he := z_at hR had hc.1.2 hk9
      rw [z_cell_long hc.1.1] at he
      refine va_last hx hb hK hR.1 (z_ws_D z ad ka G M) hS (q - 32) 1 he rfl (z_vp hc.2) hd (fun H1 locs1 hP1 _ hS1 => ?_)
      refine kk _ _ _ _ _ hl (hR.one (G1 := z_setL G q i.toNatClampNeg x) (M1 := M) had hc.1.2 hk9 rfl rfl ?_ ?_) hS1 rfl rfl
      · intro q2 h2
        exact z_cell_setL ad ka M h2
      · have e1 : z_cell ad ka (z_setL G q i.toNatClampNeg x) M q = .inl (ka 2, (z_kd G q).2, .inr (.inl (vp_updL (z_lg G q) i.toNatClampNeg x))) := by
          rw [z_cell_long (show (z_kd (z_setL G q i.toNatClampNeg x) q).1 = 2 from hc.1.1)]
          have e2 : z_lg (z_setL G q i.toNatClampNeg x) q = vp_updL (z_lg G q) i.toNatClampNeg x := by funext j; simp [z_setL, z_lg, vp_updL]
          rw [e2]
          rfl
        rw [e1]
        exact hP1
    · cases hs
  · cases hs
theorem zn_34 (C : z_Ctx z ad ka D mi p R s m args meth c) (hl : z_loc ad arr ls) (hR : z_Rel z ad ka D G M H) (hE : z_Ext z ad s s.heap G M) (hS : va_S (z_A z) s.heap H locs) (hs : z_step 34 a b ls st G M = some (.inl (L, ls', st', G1, M1)))  (hd : decode (zz_cd mi) pc = .ok (.aaload, 1)) (kk : z_go1 p l e R s m args below meth c Q z ad ka D G cells slots (pc + 1) ls' st' G1 M1) : W p l e R s m args below meth c H locs cells slots Q (F0 m pc arr (st.map (z_cv ad))) := by
  obtain ⟨hx, hb, hml, hrt, hown, hts, hlk, hfr, hlo, hK, hz, hnm, had, hon⟩ := C
  simp only [z_step] at hs
  split at hs
  · rename_i i q r
    split at hs
    · rename_i hc
      cases hs
      obtain ⟨⟨⟨h3, h5, h32⟩, hin⟩, h0⟩ := hc
      have he := z_at hR had h32 (by omega)
      rw [z_cell_ref h3] at he
      have ev : va_rf (z_ro ad (z_rf G q i.toNatClampNeg)) = .ref (ad (z_rf G q i.toNatClampNeg)) := by simp [z_ro, h0, va_rf]
      have hk1 : W p l e R s m args below meth c H locs cells slots Q (F0 m (pc + 1) arr (va_rf (z_ro ad (z_rf G q i.toNatClampNeg)) :: r.map (z_cv ad))) := by
        rw [ev]
        exact kk _ _ _ _ _ hl hR hS rfl rfl
      rcases (show (z_kd G q).1 = 3 ∨ (z_kd G q).1 = 4 ∨ (z_kd G q).1 = 5 by omega) with e9 | e9 | e9
      · rw [e9] at he
        exact va_aldq hx hb hK hR.1 (q - 32) 2 he rfl (z_vp hin) hd hk1
      · rw [e9] at he
        exact va_aldq hx hb hK hR.1 (q - 32) 3 he rfl (z_vp hin) hd hk1
      · rw [e9] at he
        exact W.aald (v := va_rf (z_ro ad (z_rf G q i.toNatClampNeg))) (ty := .array .int) hx hb (hR.1 (q - 32) _ he) ((hK.2 4 _ rfl).1 _ (fun j => va_rf (z_ro ad (z_rf G q j)))) rfl (fun h => by cases h) (by show ¬ (i < 0 ∨ (arrV _ _ _).slots.size ≤ _); rw [arrV_size]; exact z_vp hin) (by show (arrV _ _ _).slots[_]? = _; rw [arrV_read _ _ hin.2]) rfl rfl hd hk1
    · cases hs
  · cases hs
theorem zn_35 (C : z_Ctx z ad ka D mi p R s m args meth c) (hl : z_loc ad arr ls) (hR : z_Rel z ad ka D G M H) (hE : z_Ext z ad s s.heap G M) (hS : va_S (z_A z) s.heap H locs) (hs : z_step 35 a b ls st G M = some (.inl (L, ls', st', G1, M1)))  (hd : decode (zz_cd mi) pc = .ok (.aastore, 1)) (kk : z_go1 p l e R s m args below meth c Q z ad ka D G cells slots (pc + 1) ls' st' G1 M1) : W p l e R s m args below meth c H locs cells slots Q (F0 m pc arr (st.map (z_cv ad))) := by
  obtain ⟨hx, hb, hml, hrt, hown, hts, hlk, hfr, hlo, hK, hz, hnm, had, hon⟩ := C
  simp only [z_step] at hs
  split at hs
  · rename_i x i q r
    split at hs
    · rename_i hc
      cases hs
      obtain ⟨⟨hk, h32, hx32⟩, hin⟩ := hc
      have h3 : 3 ≤ (z_kd G q).1 ∧ (z_kd G q).1 ≤ 4 := by rcases hk with h | h <;> omega
      have hk9 : (z_kd G q).1 ≠ 9 := by omega
      have he := z_at hR had h32 hk9
      rw [z_cell_ref h3.1] at he
      have hx0 : x ≠ 0 := Nat.ne_of_gt (Nat.lt_of_lt_of_le (by decide : 0 < 32) hx32)
      have kr : ∀ (H1 : Heap) (locs1 : List Loc), va_P D z_cl ((z_ws z ad ka G M).set (q - 32) (ad q, .inl (ka (z_kd G q).1, (z_kd G q).2, .inr (.inr (.inr (.inr (va_up (fun k => z_ro ad (z_rf G q k)) i.toNatClampNeg (some (ad x))))))))) H1 → va_S (z_A z) s.heap H1 locs1 → W p l e R s m args below meth c H1 locs1 cells slots Q (F0 m (pc + 1) arr (st'.map (z_cv ad))) := by
        intro H1 locs1 hP1 hS1
        refine kk _ _ _ _ _ hl (hR.one (G1 := z_setR G q i.toNatClampNeg x) (M1 := M) had h32 hk9 rfl rfl ?_ ?_) hS1 rfl rfl
        · intro q2 h2
          exact z_cell_setR ad ka M h2
        · have e1 : z_cell ad ka (z_setR G q i.toNatClampNeg x) M q = .inl (ka (z_kd G q).1, (z_kd G q).2, .inr (.inr (.inr (.inr (va_up (fun k => z_ro ad (z_rf G q k)) i.toNatClampNeg (some (ad x))))))) := by
            rw [z_cell_ref (show 3 ≤ (z_kd (z_setR G q i.toNatClampNeg x) q).1 from h3.1)]
            have e2 : (fun k => z_ro ad (z_rf (z_setR G q i.toNatClampNeg x) q k)) = va_up (fun k => z_ro ad (z_rf G q k)) i.toNatClampNeg (some (ad x)) := by
              have e3 : z_rf (z_setR G q i.toNatClampNeg x) q = (fun j => if j = i.toNatClampNeg then x else z_rf G q j) := by funext j; simp [z_rf, z_setR]
              funext k
              rw [e3]
              by_cases hki : k = i.toNatClampNeg
              · subst hki
                simp only [va_up, if_true, z_ro]
                exact if_neg hx0
              · simp only [va_up, if_neg hki]
            rw [e2]
            rfl
          rw [e1]
          exact hP1
      rcases hk with ⟨e9, ex⟩ | ⟨e9, ex⟩
      · have hv := z_at hR had hx32 (by rw [ex]; exact fun h => by cases h)
        rw [z_cell_obj ex] at hv
        rw [e9] at he kr
        exact va_astq hx hb hK hR.1 (z_ws_D z ad ka G M) hS (q - 32) 2 (x - 32) 2 (r := (z_Cn 2, z_CT 2, z_nf 2)) he rfl hv (z_cok2).1 (z_vp hin) hd (fun H1 locs1 hP1 _ hS1 => kr H1 locs1 hP1 hS1)
      · have hv := z_at hR had hx32 (by rw [ex]; exact fun h => by cases h)
        rw [z_cell_obj ex] at hv
        rw [e9] at he kr
        exact va_astq hx hb hK hR.1 (z_ws_D z ad ka G M) hS (q - 32) 3 (x - 32) 5 (r := (z_Cn 5, z_CT 5, z_nf 5)) he rfl hv (z_cok5).1 (z_vp hin) hd (fun H1 locs1 hP1 _ hS1 => kr H1 locs1 hP1 hS1)
    · cases hs
  · cases hs
theorem zn_80 (C : z_Ctx z ad ka D mi p R s m args meth c) (hl : z_loc ad arr ls) (hR : z_Rel z ad ka D G M H) (hE : z_Ext z ad s s.heap G M) (hS : va_S (z_A z) s.heap H locs) (hs : z_step 80 a b ls st G M = some (.inl (L, ls', st', G1, M1))) (ha : (z_ow mi, cp) ∈ z_tc ∧ 1 ≤ z_fr mi ∧ nativeFrameWords "java/lang/System" "arraycopy" 5 + 11 ≤ zz_lo mi) (hll : ls.length = z_mxl mi) (hd : decode (zz_cd mi) pc = .ok (.invokestatic cp, 3)) (kk : z_go1 p l e R s m args below meth c Q z ad ka D G cells slots (pc + 3) ls' st' G1 M1) : W p l e R s m args below meth c H locs cells slots Q (F0 m pc arr (st.map (z_cv ad))) := by
  obtain ⟨hx, hb, hml, hrt, hown, hts, hlk, hfr, hlo, hK, hz, hnm, had, hon⟩ := C
  simp only [z_step] at hs
  split at hs
  · rename_i n dp q sp p0
    split at hs
    · rename_i hc
      cases hs
      obtain ⟨⟨⟨k1, g1⟩, k2, g2⟩, ⟨s1, s2, s3⟩, l1, l2⟩ := hc
      have hk9 : (z_kd G q).1 ≠ 9 := by rw [k2]; exact fun h => by cases h
      have he1 := z_at hR had g1 (by rw [k1]; exact fun h => by cases h)
      rw [z_cell_int k1] at he1
      have he2 := z_at hR had g2 hk9
      rw [z_cell_int k2] at he2
      refine va_copyi (ty := .int) hx hb (hml.trans (by rw [hl.1]; exact hll.symm)) hown (hts _ (z_tc_ok _ ha.1)) (hts _ z_w_an) (hts _ z_w_as) (hts _ z_w_ai) hK hR.1 (z_ws_D z ad ka G M) hS (p0 - 32) (q - 32) 0 0 he1 he2 rfl rfl rfl s1 s2 s3 l1 l2 (fun _ _ => rfl) (Nat.le_trans ha.2.1 hfr) (by show ((([] : List Value).map (z_cv ad)).map fun v => v.category).sum + _ ≤ _; simp only [List.map_nil, List.sum_nil]; have := ha.2.2; omega) hd (fun H1 locs1 hP1 _ hS1 => ?_)
      refine kk _ _ _ _ _ hl (hR.one (G1 := G) (M1 := z_sA M q (va_cpy (M p0) (M q) sp.toNatClampNeg dp.toNatClampNeg n.toNatClampNeg)) had g2 hk9 rfl rfl ?_ ?_) hS1 rfl rfl
      · intro q2 h2
        simp [z_cell, z_sA, h2]
      · rw [z_cell_int k2, z_sA_s]
        exact hP1
    · cases hs
  · cases hs
theorem zn_68 (C : z_Ctx z ad ka D mi p R s m args meth c) (hl : z_loc ad arr ls) (hR : z_Rel z ad ka D G M H) (hE : z_Ext z ad s s.heap G M) (hS : va_S (z_A z) s.heap H locs) (hs : z_step 68 a b ls st G M = some (.inl (L, ls', st', G1, M1))) (ha : (z_ow mi, cp) ∈ z_to2 ∧ 1 ≤ z_fr mi ∧ 20 ≤ zz_lo mi) (hll : ls.length = z_mxl mi) (hd : decode (zz_cd mi) pc = .ok (.invokespecial cp, 3)) (kk : z_go1 p l e R s m args below meth c Q z ad ka D G cells slots (pc + 3) ls' st' G1 M1) : W p l e R s m args below meth c H locs cells slots Q (F0 m pc arr (st.map (z_cv ad))) := by
  obtain ⟨hx, hb, hml, hrt, hown, hts, hlk, hfr, hlo, hK, hz, hnm, had, hon⟩ := C
  simp only [z_step] at hs
  split at hs
  · rename_i q r
    split at hs
    · rename_i hc
      cases hs
      refine W.objInit hx hb hown (hts _ (z_to_ok _ ha.1)) (hts _ z_w_oi) (hts _ z_w_oc) rfl (by show arr.size = c.maxLocals; rw [hl.1, hll, hml]) rfl hd (Nat.le_trans ha.2.1 hfr) ?_ (W.eq (g2 := F0 m (pc + 3) arr (st'.map (z_cv ad))) rfl (kk _ _ _ _ _ hl hR hS rfl rfl))
      show 2 * 0 + ((st'.map (z_cv ad)).map fun v => v.category).sum + 12 ≤ R.locals
      rw [z_cat_sum]
      have := ha.2.2
      omega
    · cases hs
  · cases hs
theorem zn_86 (C : z_Ctx z ad ka D mi p R s m args meth c) (hl : z_loc ad arr ls) (hR : z_Rel z ad ka D G M H) (hE : z_Ext z ad s s.heap G M) (hS : va_S (z_A z) s.heap H locs) (hs : z_step 86 a b ls st G M = some (.inl (L, ls', st', G1, M1))) (ha : (z_ow mi, cp, 86) ∈ z_tq ∧ 1 ≤ z_fr mi ∧ 21 ≤ zz_lo mi) (hll : ls.length = z_mxl mi) (hcl : cells ≤ R.cells ∧ slots ≤ R.slots) (hd : decode (zz_cd mi) pc = .ok (.invokestatic cp, 3)) (kk : z_go1 p l e R s m args below meth c Q z ad ka D G cells slots (pc + 3) ls' st' G1 M1) : W p l e R s m args below meth c H locs cells slots Q (F0 m pc arr (st.map (z_cv ad))) := by
  obtain ⟨hx, hb, hml, hrt, hown, hts, hlk, hfr, hlo, hK, hz, hnm, had, hon⟩ := C
  simp only [z_step] at hs
  split at hs
  · rename_i y x r
    split at hs
    · rename_i hc
      cases hs
      refine va_mmax hx hb (hml.trans (by rw [hl.1]; exact hll.symm)) hown (hts _ (z_tq_x _ (List.mem_filter.mpr ⟨ha.1, rfl⟩))) (hts _ z_w_xs) (hts _ z_w_mi) (hts _ z_w_xc) (Nat.le_trans ha.2.1 hfr) ?_ hcl.1 hcl.2 hd (kk _ _ _ _ _ hl hR hS rfl rfl)
      rw [z_cat_sum]
      have := ha.2.2
      omega
    · cases hs
  · cases hs
theorem zn_87 (C : z_Ctx z ad ka D mi p R s m args meth c) (hl : z_loc ad arr ls) (hR : z_Rel z ad ka D G M H) (hE : z_Ext z ad s s.heap G M) (hS : va_S (z_A z) s.heap H locs) (hs : z_step 87 a b ls st G M = some (.inl (L, ls', st', G1, M1))) (ha : (z_ow mi, cp, 87) ∈ z_tq ∧ 1 ≤ z_fr mi ∧ 21 ≤ zz_lo mi) (hll : ls.length = z_mxl mi) (hcl : cells ≤ R.cells ∧ slots ≤ R.slots) (hd : decode (zz_cd mi) pc = .ok (.invokestatic cp, 3)) (kk : z_go1 p l e R s m args below meth c Q z ad ka D G cells slots (pc + 3) ls' st' G1 M1) : W p l e R s m args below meth c H locs cells slots Q (F0 m pc arr (st.map (z_cv ad))) := by
  obtain ⟨hx, hb, hml, hrt, hown, hts, hlk, hfr, hlo, hK, hz, hnm, had, hon⟩ := C
  simp only [z_step] at hs
  split at hs
  · rename_i y x r
    split at hs
    · rename_i hc
      cases hs
      refine va_mmin hx hb (hml.trans (by rw [hl.1]; exact hll.symm)) hown (hts _ (z_tq_n _ (List.mem_filter.mpr ⟨ha.1, rfl⟩))) (hts _ z_w_ns) (hts _ z_w_mi) (hts _ z_w_nc) (Nat.le_trans ha.2.1 hfr) ?_ hcl.1 hcl.2 hd (kk _ _ _ _ _ hl hR hS rfl rfl)
      rw [z_cat_sum]
      have := ha.2.2
      omega
    · cases hs
  · cases hs
end
