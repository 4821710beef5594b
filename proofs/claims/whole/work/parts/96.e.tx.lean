/-! ===== a method that throws ===== -/
section
variable {p : Program} {l : Launch} {e : Env} {R : Room} {s : State} {m : MethodId} {args : Array Value} {below : List Frame} {meth : Method} {c : Code} {H : Heap} {locs : List Loc} {cells slots : Nat} {free : Addr → Prop} {ls : Array Slot} {rest : List Value} {Qc : Array Value → State → Outcome → State → Prop} {XC : String → State → State → Prop}
theorem z_throw9 {cc : ByteArray} {pc : Nat} (hexec : p.tables.exec = Jvm.exec) (hb : c.code = cc) (hl : l.stackTraces = false) {own cls Y text : String} {names : List String} {ik is ic ix mc ms sa : Nat} {by9 : ByteArray} {A : Nat → Prop}
    (hown : s.vm.findClass own = some m.cls) (hcls : Bundle.fit cls = true) (hY : Bundle.fit Y = true) (hnames : ∀ n ∈ names, Bundle.fit n = true)
    (g0 : decode by9 0 = .ok (.aload_n 0, 1)) (g1 : decode by9 1 = .ok (.aload_n 1, 1)) (g2 : decode by9 2 = .ok (.invokespecial ix, 3)) (g5 : decode by9 5 = .ok (.return_, 1))
    (hk : (Cond.classLink own ik cls).before args s = true) (hini : (Cond.initialized cls).before args s = true) (hstr : vk_R own is text sa s) (hat : ∀ w ∈ (z_oa9 own ic cls Y ix by9 names).filter vx_no, w.before args s = true)
    (hgood : ∀ w ∈ Cond.classLink own ik cls :: Cond.initialized cls :: (z_oa9 own ic cls Y ix by9 names).filter vx_no, vx_ot w = true)
    (hU : vx_Zq Bundle.tN "UNASSIGNED_STACK" Bundle.steD A s s.heap) (hN : vx_Zq Bundle.tN "SUPPRESSED_SENTINEL" Bundle.listD A s s.heap) (hS : va_S A s.heap H locs) (hsize : ls.size = c.maxLocals)
    (d0 : decode cc pc = .ok (.new ik, 3)) (d3 : decode cc (pc + 3) = .ok (.dup, 1)) (d4 : decode cc (pc + 4) = .ok (.ldc_w is, 3)) (d7 : decode cc (pc + 7) = .ok (.invokespecial ic, 3)) (d10 : decode cc (pc + 10) = .ok (.athrow, 1))
    (hout : ∀ x ∈ c.exceptionTable.toList, covers x (pc + 10) = false)
    (hRframes : names.length + 4 < R.frames) (hRlocals : (rest.map fun v => v.category).sum + (13 * (names.length + 2) + 43) ≤ R.locals) (hRcells : cells + 1 ≤ R.cells) (hRslots : slots + 6 ≤ R.slots) (hlocks : meth.locks = false)
    (hx : ∀ t : State, s.vm.Alike t.vm → H.size ≤ t.heap.size → (∀ q : Nat, q < H.size → t.heap[q]? = H[q]?) → XC cls s t)
    (hf : ∀ z ∈ locs, free z.base) (hc : cells + 1 ≤ mc) (hs : slots + 6 ≤ ms) :
    W p l e R s m args below meth c H locs cells slots (vx_MQ below Qc XC args s mc ms free) (F0 m pc ls rest) := by
  intro T hT X
  have htr : e.platform.stackTraces = false := (show e.platform.stackTraces = l.stackTraces by rw [X.admits.platform]).trans hl
  have Y9 := vx_rebase X (R' := { frames := R.frames, locals := R.locals, cells := 1, slots := 6 }) (Nat.le_refl _) (Nat.le_refl _) hRcells hRslots
  obtain ⟨s', hA⟩ : ∃ z, z = (T.setVm s.vm).setFrames (.invoking m args :: below) := ⟨_, rfl⟩
  rw [← hA] at Y9
  have hvm : s'.vm = s.vm := by rw [hA]; rfl
  have hhp : s'.heap = H := by rw [hA]; exact hT
  have hW0 : s.WarmedH s'.vm := by rw [hvm]; exact State.WarmedH.refl s
  have hat' : ∀ w ∈ (z_oa9 own ic cls Y ix by9 names).filter vx_no, w.before args s' = true := fun w hw => vx_ot_at hW0 hvm.symm (hgood w (List.mem_cons_of_mem _ (List.mem_cons_of_mem _ hw))) (hat w hw)
  have hk' : (Cond.classLink own ik cls).before args s' = true := vx_ot_at hW0 hvm.symm (hgood _ List.mem_cons_self) hk
  have hini' : (Cond.initialized cls).before args s' = true := vx_ot_at hW0 hvm.symm (hgood _ (List.mem_cons_of_mem _ List.mem_cons_self)) hini
  have hU' : vx_Zq Bundle.tN "UNASSIGNED_STACK" Bundle.steD A s' s'.heap := by rw [hhp]; exact vx_Zq.moved hW0.alike (hU.kept hS.2.1)
  have hN' : vx_Zq Bundle.tN "SUPPRESSED_SENTINEL" Bundle.listD A s' s'.heap := by rw [hhp]; exact vx_Zq.moved hW0.alike (hN.kept hS.2.1)
  have h : ∀ w ∈ z_oa9 own ic cls Y ix by9 names, w.before args s' = true := vx_own hat' (vx_isRefq hU'.1) (vx_isRefq hN'.1) hU'.2.word hN'.2.word
  have hown' : s'.vm.findClass own = some m.cls := by rw [hvm]; exact hown
  have hins : (Cond.instantiable cls 6).before args s' = true := h _ (by simp [z_oa9, zx_own])
  obtain ⟨vm₁, cX, kX, hfX, hkX, -, -, X₁, st1⟩ := Y9.newCold hexec (own := own) (C := cls) (index := ik) (n := 6) hown' hk' hins hini'
    (g := F0 m pc ls rest) rfl (by rw [hb]; exact d0) (Nat.le_refl _) (Nat.le_refl _)
  generalize hT1 : (T.setVm vm₁).pushCell { cls := cX, slots := kX.instanceTypes.map defaultValue, vm := .none } = T1 at X₁ st1
  have hcat : (Value.ref T.heap.size).category = 1 := rfl
  have hcellA : T1.heap[T.heap.size]? = some (freshCell cX kX) := by rw [← hT1]; exact State.heap_pushCell_size _ _
  have d3' : decode c.code (pc + 3) = .ok (.dup, 1) := by rw [hb]; exact d3
  have d4' : decode c.code (pc + 4) = .ok (.ldc_w is, 3) := by rw [hb]; exact d4
  have hstr' : vk_R own is text sa s' := vk_R.warm hW0 hstr
  obtain ⟨U, hsteps, hrun, hend, hW, hsame, ce, hce, hcv, hcc⟩ := z_ctor9 X₁ hexec htr (own := own) (cls := cls) (names := names) (ic := ic) hown' hcls hY hnames g0 g1 g2 g5 h hfX hkX hcellA (by rw [hhp, hT]; exact Nat.le_refl _) (msg := .ref sa) rfl (ls := ls) (q := pc + 7) (rest := rest) hsize
    (by rw [hb]; exact d7) (by rw [hb]; exact d10) hout hRframes hRlocals hlocks
  obtain ⟨f1, f2⟩ := vx_frame hsame
  rw [hhp] at f1 f2
  have hWs : s.WarmedH U.vm := State.WarmedH.trans hW0 hW
  have hcl : s.vm.findClass cls = some ce.cls := by
    have h9 := hcc
    rw [hvm] at h9
    exact h9
  have hall : s.sameButNew ({ U with vm := s.vm } : State) locs mc ms := by
    subst hA
    obtain ⟨e1, e2⟩ := hsame
    rw [State.setFrames_setFrames] at e1
    have h2 : (T.setVm s.vm).sameButNew ({ U with vm := s.vm } : State) [] (0 + 1) (0 + 6) := ⟨e1, e2⟩
    have h3 := X.same.trans h2
    rw [List.append_nil] at h3
    exact h3.mono hc hs
  refine ⟨U, ?_, .threw T.heap.size, hrun, hend, Or.inr ⟨T.heap.size, rfl, cls, ce, locs, hx U hWs.alike f1 (fun q hq => f2 q hq (fun z hz => nomatch hz)), hce, hcv, hcl, hWs, hall, hf⟩⟩
  refine st1 _ ?_
  show Steps p.tables e below (T1.setTop { method := m, pc := pc + 3, locals := ls, stack := .ref T.heap.size :: rest, locked := none }) _
  jvm_step X₁.here [X₁.here.top, hexec, d3', Value.category]
  exact X₁.ldcStringW hexec (own := own) (text := text) (index := is) (a := sa) hown' hstr'.1 hstr'.2
    (g := { method := m, pc := pc + 4, locals := ls, stack := .ref T.heap.size :: .ref T.heap.size :: rest, locked := none }) rfl d4' _ hsteps
end
def z_nx : ByteArray := ⟨#[0x2a, 0x2b, 0xb7, 0x00, 0x0d, 0xb1]⟩
def z_xw (E : Nat) : List Cond := if E = 0 then (z_oa9 "ChiefCircles" 311 "java/util/NoSuchElementException" "java/lang/RuntimeException" 13 z_nx ["java/lang/Exception"]).filter vx_no else vx_atS "ChiefCircles" (if E = 1 then 318 else 323) (z_en E) ["java/lang/RuntimeException", "java/lang/Exception"]
def z_xi (E : Nat) : List Nat := if E = 0 then [109, 659, 668, 672, 675, 677, 660, 661, 126, 127, 662, 667, 673, 693, 649, 694, 651, 695, 653, 663, 665, 655, 689, 690, 692, 655, 887, 888, 889, 683, 641, 683, 684, 685, 686, 643, 686, 687, 688, 689, 645, 880, 881, 882, 883, 884, 886, 877, 879, 671, 658, 657] else if E = 1 then [109, 659, 668, 672, 675, 677, 660, 661, 126, 127, 662, 667, 673, 693, 649, 694, 651, 695, 653, 663, 665, 655, 689, 690, 692, 655, 680, 681, 682, 683, 641, 683, 684, 685, 686, 643, 686, 687, 688, 689, 645, 679, 638, 639, 646, 647, 648, 650, 652, 654, 658, 657, 656] else [109, 659, 668, 672, 675, 677, 660, 661, 126, 127, 662, 667, 673, 693, 649, 694, 651, 695, 653, 663, 665, 655, 689, 690, 692, 655, 907, 908, 909, 683, 641, 683, 684, 685, 686, 643, 686, 687, 688, 689, 645, 906, 897, 898, 899, 670, 900, 901, 902, 903, 658, 657, 904]
set_option maxRecDepth 40000 in
theorem z_xw_0 : z_xw 0 = (z_xi 0).filterMap (fun i => lw_tbl[i]?) := by rfl
set_option maxRecDepth 40000 in
theorem z_xw_1 : z_xw 1 = (z_xi 1).filterMap (fun i => lw_tbl[i]?) := by rfl
set_option maxRecDepth 40000 in
theorem z_xw_2 : z_xw 2 = (z_xi 2).filterMap (fun i => lw_tbl[i]?) := by rfl
theorem z_xw_t {E : Nat} (h : E < 3) : ∀ w ∈ z_xw E, w ∈ lw_tbl := by
  have hE : z_xw E = (z_xi E).filterMap (fun i => lw_tbl[i]?) := by
    rcases (show E = 0 ∨ E = 1 ∨ E = 2 by omega) with e | e | e <;> subst e
    · exact z_xw_0
    · exact z_xw_1
    · exact z_xw_2
  intro w hw
  rw [hE] at hw
  obtain ⟨i, -, hi⟩ := List.mem_filterMap.mp hw
  exact List.mem_of_getElem? hi
theorem z_xw_g : ∀ E, E < 3 → (z_xw E).all (fun w => goodWord w || (match w with | .declares y => decide (y ∈ z_dcl) | .castable a b => decide (a = z_en E ∧ b = z_en E) | _ => false)) = true := by decide +kernel
theorem z_xw_o : ∀ E, E < 3 → (Cond.classLink "ChiefCircles" (if E = 0 then 307 else if E = 1 then 314 else 319) (z_en E) :: Cond.initialized (z_en E) :: z_xw E).all vx_ot = true := by decide +kernel
theorem z_xk : ∀ E, E < 3 → Cond.classLink "ChiefCircles" (if E = 0 then 307 else if E = 1 then 314 else 319) (z_en E) ∈ z_gw ∧ Cond.initialized (z_en E) ∈ z_gw := by
  have h : ∀ E, E < 3 → (lw_tbl[if E = 0 then 876 else if E = 1 then 637 else 896]? = some (Cond.classLink "ChiefCircles" (if E = 0 then 307 else if E = 1 then 314 else 319) (z_en E)) ∧ goodWord (Cond.classLink "ChiefCircles" (if E = 0 then 307 else if E = 1 then 314 else 319) (z_en E)) = true) ∧ lw_tbl[if E = 0 then 117 else if E = 1 then 112 else 118]? = some (Cond.initialized (z_en E)) ∧ goodWord (Cond.initialized (z_en E)) = true := by decide +kernel
  exact fun E hE => ⟨List.mem_filter.mpr ⟨List.mem_of_getElem? (h E hE).1.1, (h E hE).1.2⟩, List.mem_filter.mpr ⟨List.mem_of_getElem? (h E hE).2.1, (h E hE).2.2⟩⟩
theorem z_xat {z : Nat} {ad av sa : Nat → Nat} {args : Array Value} {s : State} (hts : ∀ w ∈ z_gw, w.before args s = true) (hi : z_Iv1 s) {E : Nat} (hE : E < 3) : ∀ w ∈ z_xw E, w.before args s = true := by
  intro w hw
  have h1 := List.all_eq_true.mp (z_xw_g E hE) w hw
  by_cases hg : goodWord w = true
  · exact hts w (List.mem_filter.mpr ⟨z_xw_t hE w hw, hg⟩)
  · rw [Bool.or_eq_true] at h1
    rcases h1 with h1 | h1
    · exact absurd h1 hg
    · split at h1
      · exact va_Nw.use rfl (hi.2.2.2.1 _ (of_decide_eq_true h1))
      · obtain ⟨rfl, rfl⟩ := of_decide_eq_true h1
        exact va_Nw.use rfl (hi.2.2.1 E hE)
      · cases h1
theorem z_tx3_k : ∀ q ∈ z_tx3, (q.2.2.1 < 3 ∧ q.2.2.2.1 = (if q.2.2.1 = 0 then 307 else if q.2.2.1 = 1 then 314 else 319) ∧ q.2.2.2.2.2 = (if q.2.2.1 = 0 then 311 else if q.2.2.1 = 1 then 318 else 323)) ∧ (z_fr q.1 = 8 ∧ zz_lo q.1 = 160) ∧ zz_on (z_ow q.1) = "ChiefCircles" := by decide +kernel
theorem z_fit : ∀ E, E < 3 → Bundle.fit (z_en E) = true := by decide +kernel
theorem z_fitR : Bundle.fit "java/lang/RuntimeException" = true ∧ Bundle.fit "java/lang/Exception" = true := by decide +kernel
theorem z_nxd : (decode z_nx 0 = .ok (.aload_n 0, 1) ∧ decode z_nx 1 = .ok (.aload_n 1, 1)) ∧ decode z_nx 2 = .ok (.invokespecial 13, 3) ∧ decode z_nx 5 = .ok (.return_, 1) := by decide +kernel
theorem z_TxOK_ok (l : Launch) (hl : l.stackTraces = false) (z : Nat) (ad av sa : Nat → Nat) (ka : Nat → ClassId) (D : va_G) (had : ∀ q, 32 ≤ q → ad q = z + (q - 32)) : z_TxOK l (z_Iv z ad av sa) z ad ka D := by
  intro f av' G M E G1 M1 hp hon hav hcat hm1 hm2 hhh hB
  refine vx_ofW (cc := zz_cd f) (maxL := z_mxl f) (ret := z_rt f) hp rfl ?_
  intro p e s m args below meth c s1 B hml hno hv
  obtain ⟨rfl, hi, hK, hR, hE, hz, hsz⟩ := hv
  have hts0 := atoms_spec (ws := Cond.code (z_y f) (zz_cd f) (z_mxl f) (z_rt f) :: z_gw) B.pre
  have hts : ∀ w ∈ z_gw, w.before (av'.map (z_cv ad)).toArray s = true := fun w hw => hts0 w (List.mem_cons_of_mem _ hw)
  have C : z_Ctx z ad ka D f p (z_rm f G G1) s m (av'.map (z_cv ad)).toArray meth c := ⟨B.exec, B.bytes, hml, B.returns, by rw [hon]; exact findClass_of_methodNamed B.named, hts, B.notSynchronized, Nat.le_refl _, Nat.le_refl _, hK, hz, (name_of_methodNamed B.named B.method).1, had, hon⟩
  have htab : c.exceptionTable.toList = tableOf (z_hh f) := by
    rw [hhh]
    cases h9 : c.exceptionTable.toList with
    | nil => rfl
    | cons x r => exact (hno x (by rw [h9]; exact List.mem_cons_self)).elim
  have fin : z_FinX p l e (z_rm f G G1) s m (av'.map (z_cv ad)).toArray below meth c (vx_MQ below (fun _ _ _ _ => False) (z_Qx z ad ka D E G1 M1) (av'.map (z_cv ad)).toArray s (z_nc G1 - z_nc G) (z_ns G1 - z_ns G) (z_A z)) z ad ka D f (z_nc G1 - z_nc G) (z_ns G1 - z_ns G) E G1 M1 := by
    refine ⟨?_, ?_⟩
    · intro H1 locs1 arr1 pc1 cells1 slots1 b cp G0 hsz1 hop hG0 hR1 hS1 hc1 hs1
      unfold z_opB at hop
      dsimp only at hop
      rw [if_neg (by decide), if_pos rfl, List.any_eq_true] at hop
      obtain ⟨q, hq, hq2⟩ := hop
      obtain ⟨q1, q2, q3, d0, d3, d4, d7, d10⟩ := of_decide_eq_true hq2
      obtain ⟨⟨k1, k2, k3⟩, ⟨k4, k5⟩, k6⟩ := z_tx3_k q hq
      have hstr := hi.2.1.2 q hq
      rw [q3] at k1 k2 k3 hstr
      rw [q1] at k4 k5 k6
      rw [q2] at d0 d3 d4 d7 d10
      rw [k2] at d0
      rw [k3] at d7
      have hown : s.vm.findClass "ChiefCircles" = some m.cls := by have := C.2.2.2.2.1; rw [k6] at this; exact this
      obtain ⟨w1, w2⟩ := z_xk E k1
      have hat := z_xat (z := z) (ad := ad) (av := av) (sa := sa) hts hi.1 k1
      have hot : ∀ w ∈ Cond.classLink "ChiefCircles" (if E = 0 then 307 else if E = 1 then 314 else 319) (z_en E) :: Cond.initialized (z_en E) :: z_xw E, vx_ot w = true := fun w hw => List.all_eq_true.mp (z_xw_o E k1) w hw
      have hxc : ∀ t : State, s.vm.Alike t.vm → H1.size ≤ t.heap.size → (∀ q : Nat, q < H1.size → t.heap[q]? = H1[q]?) → z_Qx z ad ka D E G1 M1 (z_en E) s t := by
        intro t hal hs2 hk2
        refine ⟨rfl, ?_, ?_⟩
        · rw [← hG0]
          obtain ⟨r1, r2, r3, r4⟩ := hR1
          exact ⟨r1.kept (fun k9 x hx => hk2 x.1 ((r1 k9 x hx).lt)), r2, by show z_np G0 ≤ z_nc G0 + 1 + 32; omega, r4⟩
        · have hS2 : va_S (z_A z) s.heap t.heap locs1 := ⟨Nat.le_trans hS1.1 hs2, fun q hq hn => by rw [hk2 q (Nat.lt_of_lt_of_le hq hS1.1)]; exact hS1.2.1 q hq hn, hS1.2.2⟩
          exact hS2.F rfl
      have hfr : (z_rm f G G1).frames = 8 := k4
      have hlo : (z_rm f G G1).locals = 160 := k5
      have hce : (z_rm f G G1).cells = z_nc G1 - z_nc G := rfl
      have hsl : (z_rm f G G1).slots = z_ns G1 - z_ns G := rfl
      by_cases hE0 : E = 0
      · subst hE0
        exact z_throw9 (names := ["java/lang/Exception"]) (Y := "java/lang/RuntimeException") (ix := 13) (by9 := z_nx) (cls := z_en 0) C.1 C.2.1 hl hown (z_fit 0 (by decide)) z_fitR.1 (fun n hn => by rw [List.mem_singleton] at hn; rw [hn]; exact z_fitR.2) z_nxd.1.1 z_nxd.1.2 z_nxd.2.1 z_nxd.2.2 (hts _ w1) (hts _ w2) hstr hat hot hi.2.2.2.2.2.1 hi.2.2.2.2.2.2 hS1 (hsz1.trans hml.symm) d0 d3 d4 d7 d10 (fun x hx => (hno x hx).elim) (by rw [hfr]; decide) (by rw [hlo]; decide) (by rw [hce]; omega) (by rw [hsl]; omega) B.notSynchronized hxc hS1.2.2 (by omega) (by omega)
      · have hx9 : z_xw E = vx_atS "ChiefCircles" (if E = 0 then 311 else if E = 1 then 318 else 323) (z_en E) ["java/lang/RuntimeException", "java/lang/Exception"] := by unfold z_xw; rw [if_neg hE0, if_neg hE0]
        rw [hx9] at hat hot
        exact vx_throwSW (names := ["java/lang/RuntimeException", "java/lang/Exception"]) (cls := z_en E) C.1 C.2.1 hl hown (z_fit E k1) (fun n hn => by
          rcases List.mem_cons.mp hn with rfl | hn
          · exact z_fitR.1
          · rw [List.mem_singleton] at hn; rw [hn]; exact z_fitR.2) (hts _ w1) (hts _ w2) hstr hat hot hi.2.2.2.2.2.1 hi.2.2.2.2.2.2 hS1 (hsz1.trans hml.symm) d0 d3 d4 d7 d10 (fun x hx => (hno x hx).elim) (by rw [hfr]; decide) (by rw [hlo]; decide) (by rw [hce]; omega) (by rw [hsl]; omega) B.notSynchronized hxc hS1.2.2 (by omega) (by omega)
    · intro H1 locs1 arr1 pc1 st1 q ce hR1 hS1 hq hcv hcl
      exact vx_out (fun x hx => (hno x hx).elim) B.notSynchronized hq hcv hcl (fun t ht hal => ⟨rfl, by rw [ht]; exact hR1, hS1.F ht⟩) hS1.2.2 (Nat.le_refl _) (Nat.le_refl _)
  rw [lg_entry_eq]
  exact hB p e _ s m _ below meth c _ _ (z_nc G1 - z_nc G) (z_ns G1 - z_ns G) C hi (z_loc_ent ad hav hcat) hR hE hsz (by omega) (by omega) (Nat.le_refl _) (Nat.le_refl _) htab fin
