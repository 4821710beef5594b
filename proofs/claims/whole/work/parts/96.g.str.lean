/-! ===== String.length, String.charAt: the calls ===== -/
theorem z_txs : ∀ k, k < 20 → (z_tx k).length ≤ 10 ∧ ∀ j, j < 10 → ((Int32.ofNat ((z_tx k).getD j 0) &&& 255).toUInt32 % 65536).toInt32 = Int32.ofNat ((z_tx k).getD j 0) ∧ narrow .char (.int (Int32.ofNat ((z_tx k).getD j 0))) = .int (Int32.ofNat ((z_tx k).getD j 0)) := by decide +kernel
theorem z_shr0 : ∀ n, n < 11 → Int32.ofNat n >>> ((0 : Int32) &&& 31) = Int32.ofNat n ∧ Int32.ofNat n >>> (0 : Int32) = Int32.ofNat n := by decide +kernel
section
variable {l : Launch} {z : Nat} {ad av : Nat → Nat} {k : Nat}
theorem dX9 : (decode z_bX 0 = .ok (.iload_n 0, 1) ∧ decode z_bX 1 = .ok (.iload_n 1, 1) ∧ decode z_bX 2 = .ok (.getstatic 1053, 3)) ∧ decode z_bX 5 = .ok (.invokestatic 1059, 3) ∧ decode z_bX 8 = .ok (.pop, 1) ∧ decode z_bX 9 = .ok (.return_, 1) := by decide +kernel
theorem z_cwP {R : Room} {s : State} {args : Array Value} (hg : ∀ w ∈ z_gw, w.before args s = true) (hR : 0 + 1 ≤ R.frames ∧ 8 + (3 + 11) + 0 ≤ R.locals) : CallB R s args "java/lang/String" 1059 z_yP z_bP 3 (some .int) (Cond.code z_yP z_bP 3 (some .int) :: z_gw) { frames := 0, cells := 0, slots := 0, locals := 0 } 0 0 3 ∧ (Cond.static z_yP).before args s = true :=
  va_cwS 3 hg (z_gI (fun x hx => by
    simp only [va_wsS, List.cons_append, List.nil_append, List.mem_cons] at hx
    rcases hx with rfl | rfl | rfl | rfl | hx
    · exact zz_ws.2.2.1
    · exact zz_ws.2.2.2.1
    · exact zz_ws.2.2.2.2
    · exact zw_P
    · exact hx)) rfl rfl rfl (by decide +kernel) hR
theorem z_mX {i n : Int32} (h1 : ¬ i < 0) (h2 : i < n) : Met l z_yX (Cond.code z_yX z_bX 2 none :: z_gw) { frames := 1, cells := 0, slots := 0, locals := 22 } (zz_Ps z ad av [.int i, .int n]) (va_Qv (fun (_ : Unit) => True) (fun _ _ => True) z_F0) 0 0 z_F0 := by
  obtain ⟨⟨d0, d1, d2⟩, d5, d8, d9⟩ := dX9
  refine Met.ofW (cc := z_bX) (maxL := 2) (ret := none) (by decide) rfl ?_
  intro p e s m args below meth c s₁ B hml hv
  obtain ⟨rfl, hi⟩ := hv
  have hx := B.exec
  have hb := B.bytes
  have hts := atoms_spec (ws := Cond.code z_yX z_bX 2 none :: z_gw) B.pre
  have hg : ∀ w ∈ z_gw, w.before #[Value.int i, .int n] s = true := fun w hw => hts w (List.mem_cons_of_mem _ hw)
  have hown : s.vm.findClass "java/lang/String" = some m.cls := findClass_of_methodNamed B.named
  have hS0 : va_S z_F0 s.heap s.heap [] := va_S.rf
  have hS : va_S (z_A z) s.heap s.heap [] := va_S.rf
  have hl := lv_entry [Value.int i, .int n] (n := 2) (Nat.le_of_ble_eq_true rfl)
  rw [lg_entry_eq]
  generalize (lg_sl [Value.int i, .int n] ++ List.replicate (2 - (lg_sl [Value.int i, .int n]).length) Slot.unset).toArray = ls at hl ⊢
  refine lv_iload_n hx hb d0 rfl (lv_at hl 0 rfl) ?_
  refine lv_iload_n hx hb d1 rfl (lv_at hl 1 rfl) ?_
  have go : ∀ r : Value, r.isRef = true → va_Z "jdk/internal/util/Preconditions" "SIOOBE_FORMATTER" "Ljava/util/function/BiFunction;" r (z_A z) s s.heap → W p l e (headSpec (Cond.code z_yX z_bX 2 none :: z_gw) { frames := 1, cells := 0, slots := 0, locals := 22 }).room s m #[Value.int i, .int n] below meth c s.heap [] 0 0 (MQ below (va_Qv (fun (_ : Unit) => True) (fun _ _ => True) z_F0) #[Value.int i, .int n] s 0 0 z_F0) (F0 m 2 ls [.int n, .int i]) := by
    intro r hr hZ
    refine va_gets hx hb hZ hS hown (hg _ zw_f.2.2) (fun _ h => h) d2 ?_
    refine va_calli (va_runS (As := [.int i, .int n, r]) (rest := []) ⟨hx, hb, hml, hown, hg⟩ (z_mP (z := z) (ad := ad) (av := av) hr h1 h2) (z_cwP hg ⟨Nat.le_of_ble_eq_true rfl, Nat.le_of_ble_eq_true rfl⟩) ⟨z_bl _ _ _ _, fun U hU hW => ⟨rfl, by show z_Iv3 z ad av U U.heap; rw [hU]; exact z_Iv3.moved hW.alike hi⟩⟩ rfl rfl hl.1 rfl (lv_room (Nat.le_of_ble_eq_true rfl)) d5 ⟨Nat.zero_le _, Nat.zero_le _⟩) hS0 (fun _ _ h => h) (fun _ h => h) (fun r1 u t H1 locs1 _ _ _ _ _ _ hS1 => ?_)
    refine lv_pop hx hb d8 rfl ?_
    exact W.vret hx hb B.returns (fun t ht hW => ⟨⟨(), rfl, trivial, trivial⟩, hS1.F ht⟩) hS1.2.2 d9
  rcases hi.2.1.2 with hZ | ⟨t, hZ⟩
  · exact go .null rfl hZ
  · exact go (.ref t) rfl hZ
theorem dA9 : (decode z_bA 0 = .ok (.iload_n 1, 1) ∧ decode z_bA 1 = .ok (.aload_n 0, 1) ∧ decode z_bA 2 = .ok (.arraylength, 1)) ∧ (decode z_bA 3 = .ok (.invokestatic 9, 3) ∧ decode z_bA 6 = .ok (.aload_n 0, 1) ∧ decode z_bA 7 = .ok (.iload_n 1, 1)) ∧ (decode z_bA 8 = .ok (.baload, 1) ∧ decode z_bA 9 = .ok (.sipush 255, 3)) ∧ decode z_bA 12 = .ok (.iand, 1) ∧ decode z_bA 13 = .ok (.i2c, 1) ∧ decode z_bA 14 = .ok (.ireturn, 1) := by decide +kernel
theorem z_cwX {R : Room} {s : State} {args : Array Value} (hg : ∀ w ∈ z_gw, w.before args s = true) (hR : 1 + 1 ≤ R.frames ∧ 8 + (2 + 11) + 22 ≤ R.locals) : CallB R s args "java/lang/StringLatin1" 9 z_yX z_bX 2 none (Cond.code z_yX z_bX 2 none :: z_gw) { frames := 1, cells := 0, slots := 0, locals := 22 } 0 0 2 ∧ (Cond.static z_yX).before args s = true :=
  va_cwS 2 hg (z_gI (fun x hx => by
    simp only [va_wsS, List.cons_append, List.nil_append, List.mem_cons] at hx
    rcases hx with rfl | rfl | rfl | rfl | hx
    · exact zz_ws.2.1.1
    · exact zz_ws.2.1.2.1
    · exact zz_ws.2.1.2.2
    · exact zw_X
    · exact hx)) rfl rfl rfl (by decide +kernel) hR
theorem z_mA (h6 : 6 ≤ k) (h20 : k < 20) {j : Nat} (hj : j < (z_tx k).length) : Met l z_yA (Cond.code z_yA z_bA 2 (some .char) :: z_gw) { frames := 2, cells := 0, slots := 0, locals := 43 } (zz_Ps z ad av [.ref (av k), .int (nI j)]) (z_Qs (Int32.ofNat ((z_tx k).getD j 0))) 0 0 z_F0 := by
  obtain ⟨⟨d0, d1, d2⟩, ⟨d3, d6, d7⟩, ⟨d8, d9⟩, d12, d13, d14⟩ := dA9
  obtain ⟨tl, tj⟩ := z_txs k h20
  obtain ⟨tc, tn⟩ := tj j (by omega)
  have h1 : ¬ nI j < 0 := nI_pos (by omega)
  have h2 : nI j < nI (z_tx k).length := nI_lt hj (by omega)
  refine Met.ofW (cc := z_bA) (maxL := 2) (ret := some .char) (by decide) rfl ?_
  intro p e s m args below meth c s₁ B hml hv
  obtain ⟨rfl, hi⟩ := hv
  have hx := B.exec
  have hb := B.bytes
  have hts := atoms_spec (ws := Cond.code z_yA z_bA 2 (some .char) :: z_gw) B.pre
  have hg : ∀ w ∈ z_gw, w.before #[Value.ref (av k), .int (nI j)] s = true := fun w hw => hts w (List.mem_cons_of_mem _ hw)
  have hown : s.vm.findClass "java/lang/StringLatin1" = some m.cls := findClass_of_methodNamed B.named
  have hS0 : va_S z_F0 s.heap s.heap [] := va_S.rf
  have hS : va_S (z_A z) s.heap s.heap [] := va_S.rf
  have hl := lv_entry [Value.ref (av k), .int (nI j)] (n := 2) (Nat.le_of_ble_eq_true rfl)
  rw [lg_entry_eq]
  generalize (lg_sl [Value.ref (av k), .int (nI j)] ++ List.replicate (2 - (lg_sl [Value.ref (av k), .int (nI j)]).length) Slot.unset).toArray = ls at hl ⊢
  obtain ⟨g1, g2, g3, g4⟩ := hi.2.2.1 k h6 h20
  refine lv_iload_n hx hb d0 rfl (lv_at hl 1 rfl) ?_
  refine lv_aload_n hx hb d1 rfl (lv_at hl 0 rfl) ?_
  refine va_tlen hx hb g4 hS (v := nI (z_tx k).length) rfl d2 ?_
  refine va_callv (va_runS (As := [.int (nI j), .int (nI (z_tx k).length)]) (rest := []) ⟨hx, hb, hml, hown, hg⟩ (z_mX (z := z) (ad := ad) (av := av) h1 h2) (z_cwX hg ⟨Nat.le_of_ble_eq_true rfl, Nat.le_of_ble_eq_true rfl⟩) ⟨z_bl _ _ _ _, fun U hU hW => ⟨rfl, by show z_Iv3 z ad av U U.heap; rw [hU]; exact z_Iv3.moved hW.alike hi⟩⟩ rfl rfl hl.1 rfl (lv_room (Nat.le_of_ble_eq_true rfl)) d3 ⟨Nat.zero_le _, Nat.zero_le _⟩) hS0 (fun _ _ h => h) (fun _ h => h) (fun u t H1 locs1 _ _ _ _ _ _ hS1 => ?_)
  have hS2 : va_S (z_A z) s.heap H1 locs1 := z_S0 hS1
  refine lv_aload_n hx hb d6 rfl (lv_at hl 0 rfl) ?_
  refine lv_iload_n hx hb d7 rfl (lv_at hl 1 rfl) ?_
  have hcl : (nI j).toNatClampNeg = j := nI_clamp (by omega)
  refine va_tb hx hb g4 hS2 (v := .int (Int32.ofNat ((z_tx k).getD j 0))) (fun q => q.elim h1 (fun q2 => by rw [hcl] at q2; omega)) (by rw [hcl]) d8 ?_
  refine lv_sipush (v := 255) hx hb d9 (by decide) ?_
  refine lv_iand hx hb d12 ?_
  refine lv_i2c (v := Int32.ofNat ((z_tx k).getD j 0)) hx hb d13 tc ?_
  exact W.zret (ty := .char) hx hb B.returns tn (fun t ht hW => ⟨⟨_, (), rfl, rfl, trivial⟩, hS1.F ht⟩) hS1.2.2 d14
theorem dL9 : (decode z_bL 0 = .ok (.aload_n 0, 1) ∧ decode z_bL 1 = .ok (.getfield 9, 3) ∧ decode z_bL 4 = .ok (.arraylength, 1)) ∧ (decode z_bL 5 = .ok (.aload_n 0, 1) ∧ decode z_bL 6 = .ok (.invokevirtual 335, 3)) ∧ decode z_bL 9 = .ok (.ishr, 1) ∧ decode z_bL 10 = .ok (.ireturn, 1) := by decide +kernel
theorem z_rcS {s : State} {H : Heap} {locs : List Loc} (g1 : va_O "java/lang/String" (ad k) (z_A z) s s.heap) (hS : va_S (z_A z) s.heap H locs) : ∃ cell : Cell, H[ad k]? = some cell ∧ cell.vm.isStatics = false ∧ s.vm.findClass "java/lang/String" = some cell.cls := by
  obtain ⟨cell, h1, h2, h3, -⟩ := g1.kept hS.2.1
  exact ⟨cell, h1, h2, h3⟩
theorem z_mL (h6 : 6 ≤ k) (h20 : k < 20) : Met l z_ySL (Cond.code z_ySL z_bL 1 (some .int) :: z_gw) { frames := 1, cells := 0, slots := 0, locals := 20 } (zz_Ps z ad av [.ref (ad k)]) (z_Qs (nI (z_tx k).length)) 0 0 z_F0 := by
  obtain ⟨⟨d0, d1, d4⟩, ⟨d5, d6⟩, d9, d10⟩ := dL9
  obtain ⟨tl, -⟩ := z_txs k h20
  refine Met.ofW (cc := z_bL) (maxL := 1) (ret := some .int) (by decide) rfl ?_
  intro p e s m args below meth c s₁ B hml hv
  obtain ⟨rfl, hi⟩ := hv
  have hx := B.exec
  have hb := B.bytes
  have hts := atoms_spec (ws := Cond.code z_ySL z_bL 1 (some .int) :: z_gw) B.pre
  have hg : ∀ w ∈ z_gw, w.before #[Value.ref (ad k)] s = true := fun w hw => hts w (List.mem_cons_of_mem _ hw)
  have hown : s.vm.findClass "java/lang/String" = some m.cls := findClass_of_methodNamed B.named
  have hS0 : va_S z_F0 s.heap s.heap [] := va_S.rf
  have hS : va_S (z_A z) s.heap s.heap [] := va_S.rf
  have hl := lv_entry [Value.ref (ad k)] (n := 1) (Nat.le_of_ble_eq_true rfl)
  rw [lg_entry_eq]
  generalize (lg_sl [Value.ref (ad k)] ++ List.replicate (1 - (lg_sl [Value.ref (ad k)]).length) Slot.unset).toArray = ls at hl ⊢
  obtain ⟨g1, g2, g3, g4⟩ := hi.2.2.1 k h6 h20
  refine lv_aload_n hx hb d0 rfl (lv_at hl 0 rfl) ?_
  refine vk_getf hx hb g3 hS hown (hg _ zw_f.1.2) (fun _ h => h) d1 ?_
  refine va_tlen hx hb g4 hS (v := nI (z_tx k).length) rfl d4 ?_
  refine lv_aload_n hx hb d5 rfl (lv_at hl 0 rfl) ?_
  have cw := cwV (R := (headSpec (Cond.code z_ySL z_bL 1 (some .int) :: z_gw) { frames := 1, cells := 0, slots := 0, locals := 20 }).room) (own := "java/lang/String") (index := 335) (C := "java/lang/String") (y := z_yK) (bytes := z_bK) (maxL := 1) (ret := some .byte) (ws := Cond.code z_yK z_bK 1 (some .byte) :: z_gw) (rm := { frames := 0, cells := 0, slots := 0, locals := 0 }) (mc := 0) (ms := 0) 0 hg (z_gI (fun x hx => by
    simp only [wsV, List.cons_append, List.nil_append, List.mem_cons] at hx
    rcases hx with rfl | rfl | rfl | rfl | rfl | hx
    · exact zw_l.2.1.1
    · exact zw_l.2.1.2.1
    · exact zw_l.2.1.2.2
    · exact zz_ws.2.1.2.2
    · exact zw_K
    · exact hx)) rfl rfl rfl (by decide +kernel) ⟨Nat.le_of_ble_eq_true rfl, Nat.le_of_ble_eq_true rfl⟩
  refine va_calli (va_runV (As := []) (b := ad k) (rest := [.int (nI (z_tx k).length)]) ⟨hx, hb, hml, hown, hg⟩ (z_mK (z := z) (ad := ad) (av := av) h6 h20) cw ⟨z_bl _ _ _ _, z_rcS g1 hS, fun U hU hW => ⟨rfl, by show z_Iv3 z ad av U U.heap; rw [hU]; exact z_Iv3.moved hW.alike hi⟩⟩ rfl rfl hl.1 rfl (lv_room (Nat.le_of_ble_eq_true rfl)) d6 ⟨Nat.zero_le _, Nat.zero_le _⟩) hS0 (fun _ _ h => h) (fun _ h => h) (fun r1 u t H1 locs1 _ _ hr1 _ _ _ hS1 => ?_)
  subst hr1
  refine lv_ishr hx hb d9 ?_
  refine W.iret hx hb B.returns (fun t ht hW => ⟨⟨_, (), rfl, ?_, trivial⟩, hS1.F ht⟩) hS1.2.2 d10
  first | exact (z_shr0 _ (by omega)).1 | exact (z_shr0 _ (by omega)).2
theorem dC9 : (decode z_bC 0 = .ok (.aload_n 0, 1) ∧ decode z_bC 1 = .ok (.invokevirtual 492, 3) ∧ decode z_bC 4 = .ok (.ifCond .eq 12, 3)) ∧ (decode z_bC 7 = .ok (.aload_n 0, 1) ∧ decode z_bC 8 = .ok (.getfield 9, 3) ∧ decode z_bC 11 = .ok (.iload_n 1, 1)) ∧ decode z_bC 12 = .ok (.invokestatic 495, 3) ∧ decode z_bC 15 = .ok (.ireturn, 1) := by decide +kernel
theorem z_mC (h6 : 6 ≤ k) (h20 : k < 20) {j : Nat} (hj : j < (z_tx k).length) : Met l z_ySC (Cond.code z_ySC z_bC 2 (some .char) :: z_gw) { frames := 3, cells := 0, slots := 0, locals := 64 } (zz_Ps z ad av [.ref (ad k), .int (nI j)]) (z_Qs (Int32.ofNat ((z_tx k).getD j 0))) 0 0 z_F0 := by
  obtain ⟨⟨d0, d1, d4⟩, ⟨d7, d8, d11⟩, d12, d15⟩ := dC9
  obtain ⟨tl, tj⟩ := z_txs k h20
  obtain ⟨tc, tn⟩ := tj j (by omega)
  refine Met.ofW (cc := z_bC) (maxL := 2) (ret := some .char) (by decide) rfl ?_
  intro p e s m args below meth c s₁ B hml hv
  obtain ⟨rfl, hi⟩ := hv
  have hx := B.exec
  have hb := B.bytes
  have hts := atoms_spec (ws := Cond.code z_ySC z_bC 2 (some .char) :: z_gw) B.pre
  have hg : ∀ w ∈ z_gw, w.before #[Value.ref (ad k), .int (nI j)] s = true := fun w hw => hts w (List.mem_cons_of_mem _ hw)
  have hown : s.vm.findClass "java/lang/String" = some m.cls := findClass_of_methodNamed B.named
  have hS0 : va_S z_F0 s.heap s.heap [] := va_S.rf
  have hS : va_S (z_A z) s.heap s.heap [] := va_S.rf
  have hl := lv_entry [Value.ref (ad k), .int (nI j)] (n := 2) (Nat.le_of_ble_eq_true rfl)
  rw [lg_entry_eq]
  generalize (lg_sl [Value.ref (ad k), .int (nI j)] ++ List.replicate (2 - (lg_sl [Value.ref (ad k), .int (nI j)]).length) Slot.unset).toArray = ls at hl ⊢
  obtain ⟨g1, g2, g3, g4⟩ := hi.2.2.1 k h6 h20
  refine lv_aload_n hx hb d0 rfl (lv_at hl 0 rfl) ?_
  have cw := cwV (R := (headSpec (Cond.code z_ySC z_bC 2 (some .char) :: z_gw) { frames := 3, cells := 0, slots := 0, locals := 64 }).room) (own := "java/lang/String") (index := 492) (C := "java/lang/String") (y := z_yI) (bytes := z_bI) (maxL := 1) (ret := some .boolean) (ws := Cond.code z_yI z_bI 1 (some .boolean) :: z_gw) (rm := { frames := 0, cells := 0, slots := 0, locals := 0 }) (mc := 0) (ms := 0) 0 hg (z_gI (fun x hx => by
    simp only [wsV, List.cons_append, List.nil_append, List.mem_cons] at hx
    rcases hx with rfl | rfl | rfl | rfl | rfl | hx
    · exact zw_l.2.2.1
    · exact zw_l.2.2.2.1
    · exact zw_l.2.2.2.2
    · exact zz_ws.2.1.2.2
    · exact zw_I
    · exact hx)) rfl rfl rfl (by decide +kernel) ⟨Nat.le_of_ble_eq_true rfl, Nat.le_of_ble_eq_true rfl⟩
  refine va_calli (va_runV (As := []) (b := ad k) (rest := []) ⟨hx, hb, hml, hown, hg⟩ (z_mI (z := z) (ad := ad) (av := av) h6 h20) cw ⟨z_bl _ _ _ _, z_rcS g1 hS, fun U hU hW => ⟨rfl, by show z_Iv3 z ad av U U.heap; rw [hU]; exact z_Iv3.moved hW.alike hi⟩⟩ rfl rfl hl.1 rfl (lv_room (Nat.le_of_ble_eq_true rfl)) d1 ⟨Nat.zero_le _, Nat.zero_le _⟩) hS0 (fun _ _ h => h) (fun _ h => h) (fun r1 u t H1 locs1 _ _ hr1 _ _ _ hS1 => ?_)
  subst hr1
  have hS2 : va_S (z_A z) s.heap H1 locs1 := z_S0 hS1
  refine lv_if_eq (tgt := 16) hx hb d4 (by decide) (fun hc => absurd hc (by decide)) (fun hc => ?_)
  refine lv_aload_n hx hb d7 rfl (lv_at hl 0 rfl) ?_
  refine vk_getf hx hb g3 hS2 hown (hg _ zw_f.1.2) (fun _ h => h) d8 ?_
  refine lv_iload_n hx hb d11 rfl (lv_at hl 1 rfl) ?_
  have cw2 := va_cwS (R := (headSpec (Cond.code z_ySC z_bC 2 (some .char) :: z_gw) { frames := 3, cells := 0, slots := 0, locals := 64 }).room) (own := "java/lang/String") (index := 495) (y := z_yA) (bytes := z_bA) (maxL := 2) (ret := some .char) (ws := Cond.code z_yA z_bA 2 (some .char) :: z_gw) (rm := { frames := 2, cells := 0, slots := 0, locals := 43 }) (mc := 0) (ms := 0) 2 hg (z_gI (fun x hx => by
    simp only [va_wsS, List.cons_append, List.nil_append, List.mem_cons] at hx
    rcases hx with rfl | rfl | rfl | rfl | hx
    · exact zz_ws.1.1
    · exact zz_ws.1.2.1
    · exact zz_ws.1.2.2
    · exact zw_A
    · exact hx)) rfl rfl rfl (by decide +kernel) ⟨Nat.le_of_ble_eq_true rfl, Nat.le_of_ble_eq_true rfl⟩
  refine va_calli (va_runS (As := [.ref (av k), .int (nI j)]) (rest := []) ⟨hx, hb, hml, hown, hg⟩ (z_mA (z := z) (ad := ad) (av := av) h6 h20 hj) cw2 ⟨z_bl _ _ _ _, fun U hU hW => ⟨rfl, by show z_Iv3 z ad av U U.heap; rw [hU]; exact z_Iv3.moved hW.alike (hi.kept hS2.2.1)⟩⟩ rfl rfl hl.1 rfl (lv_room (Nat.le_of_ble_eq_true rfl)) d12 ⟨Nat.zero_le _, Nat.zero_le _⟩) hS1 (fun _ _ h => h) (fun _ h => h) (fun r1 u t H2 locs2 _ _ hr2 _ _ _ hS3 => ?_)
  subst hr2
  exact W.zret (ty := .char) hx hb B.returns tn (fun t ht hW => ⟨⟨_, (), rfl, rfl, trivial⟩, hS3.F ht⟩) hS3.2.2 d15
end
