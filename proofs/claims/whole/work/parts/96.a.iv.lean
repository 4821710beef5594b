/-! ===== what holds of the start, all along ===== -/
def z_sx (k : Nat) : String := (["members", "ranks", "jobs", "every", "wait", "gap", "delay"] : List String).getD ((k + 1) % 7) ""
def z_em (E : Nat) : String := if E = 0 then "there is no such one" else if E = 1 then "an argument is none such" else "the member's state forbids it"
def z_sC (k : Nat) : String := if k < 4 then "ChiefCircles" else "ChiefCirclesModel"
def z_sN (k : Nat) : String := if k = 2 then "LEAST_RULE" else if k = 3 then "GREATEST_RULE" else if k = 4 then "LEAST" else "GREATEST"
def z_fln : List (Nat × Nat) := [(89, 2), (92, 3)]
def z_dcl : List MethodName := [Bundle.initS "java/lang/RuntimeException", Bundle.initS "java/lang/Exception", Bundle.initS "java/lang/Throwable"]
def z_AOA (U : State) : Prop := (Cond.arrayOver (.array .int)).before #[] U = true
theorem z_AOA.moved {u U : State} (hvm : u.vm.Alike U.vm) (h : z_AOA u) : z_AOA U := by
  have h2 : (Cond.arrayOver (.array .int)).before #[] (u.setVm U.vm) = true := by rw [Cond.arrayOver_setVmC hvm]; exact h
  exact h2
theorem z_AOA.use {A : Array Value} {U : State} (h : z_AOA U) : (Cond.arrayOver (.array .int)).before A U = true := h
/-- a String constant: its cell, its bytes -/
def z_S8 (z : Nat) (ad av : Nat → Nat) (k : Nat) (U : State) (H : Heap) : Prop := va_O "java/lang/String" (ad k) (z_A z) U H ∧ va_OF "java/lang/String" "coder" "B" (.int 0) (ad k) (z_A z) U H ∧ va_OF "java/lang/String" "value" "[B" (.ref (av k)) (ad k) (z_A z) U H ∧ va_T .byte (av k) (z_tx k).length (fun j => .int (Int32.ofNat ((z_tx k).getD j 0))) (z_A z) U H
def z_Iv1 (U : State) : Prop := (∀ q ∈ z_tm66, va_Nw (.methodLinkNest (zz_on q.1) q.2.1 (z_y q.2.2.1) "ChiefCircles") U) ∧ (∀ q ∈ z_fln, va_Nw (.fieldLinkNest "ChiefCircles$TextReader" q.1 "ChiefCircles" (z_sN q.2) "[I" "ChiefCircles") U) ∧ (∀ E, E < 3 → va_Nw (.castable (z_en E) (z_en E)) U) ∧ (∀ y ∈ z_dcl, va_Nw (.declares y) U) ∧ (va_AO "ChiefCircles$Member" U ∧ va_AO "ChiefCircles$World" U ∧ z_AOA U) ∧ ∀ E F, E < 3 → F < 3 → E ≠ F → va_Nc (z_en E) (z_en F) U
def z_Iv2 (ad sa : Nat → Nat) (U : State) : Prop := (∀ q ∈ z_tt, vk_R (zz_on q.1) q.2.1 (z_sx q.2.2) (ad q.2.2) U) ∧ ∀ q ∈ z_tx3, vk_R "ChiefCircles" q.2.2.2.2.1 (z_em q.2.2.1) (sa q.2.2.1) U
def z_Iv3 (z : Nat) (ad av : Nat → Nat) (U : State) (H : Heap) : Prop := (∀ k, 2 ≤ k → k < 6 → va_Z (z_sC k) (z_sN k) "[I" (.ref (ad k)) (z_A z) U H) ∧ (va_Z "java/lang/String" "COMPACT_STRINGS" "Z" (.int 1) (z_A z) U H ∧ va_Zq "jdk/internal/util/Preconditions" "SIOOBE_FORMATTER" "Ljava/util/function/BiFunction;" (z_A z) U H) ∧ (∀ k, 6 ≤ k → k < 20 → z_S8 z ad av k U H) ∧ vx_Zq Bundle.tN "UNASSIGNED_STACK" Bundle.steD (z_A z) U H ∧ vx_Zq Bundle.tN "SUPPRESSED_SENTINEL" Bundle.listD (z_A z) U H
def z_Iv (z : Nat) (ad av sa : Nat → Nat) (U : State) (H : Heap) : Prop := z_Iv1 U ∧ z_Iv2 ad sa U ∧ z_Iv3 z ad av U H
theorem z_Iv1.warm {s U : State} (hW : s.WarmedH U.vm) (h : z_Iv1 s) : z_Iv1 U := by
  obtain ⟨h1, h2, h3, h4, ⟨h5, h6, h7⟩, h8⟩ := h
  exact ⟨fun q hq => va_Nw.warmM hW (h1 q hq), fun q hq => va_Nw.warmF hW (h2 q hq), fun E hE => va_Nw.warmC hW (h3 E hE), fun y hy => va_Nw.warmD hW (h4 y hy), ⟨va_AO.moved hW.alike h5, va_AO.moved hW.alike h6, z_AOA.moved hW.alike h7⟩, fun E F a b c => va_Nc.moved hW.alike (h8 E F a b c)⟩
theorem z_Iv2.warm {ad sa : Nat → Nat} {s U : State} (hW : s.WarmedH U.vm) (h : z_Iv2 ad sa s) : z_Iv2 ad sa U := ⟨fun q hq => vk_R.warm hW (h.1 q hq), fun q hq => vk_R.warm hW (h.2 q hq)⟩
theorem z_Iv3.moved {z : Nat} {ad av : Nat → Nat} {s U : State} {H : Heap} (hvm : s.vm.Alike U.vm) (h : z_Iv3 z ad av s H) : z_Iv3 z ad av U H := by
  obtain ⟨h1, h2, h3, h4, h5⟩ := h
  refine ⟨fun k a b => va_Z.moved hvm (h1 k a b), ⟨va_Z.moved hvm h2.1, va_Zq.moved hvm h2.2⟩, fun k a b => ?_, vx_Zq.moved hvm h4, vx_Zq.moved hvm h5⟩
  obtain ⟨g1, g2, g3, g4⟩ := h3 k a b
  exact ⟨va_O.moved hvm g1, va_OF.moved hvm g2, va_OF.moved hvm g3, va_T.moved hvm g4⟩
theorem z_Iv3.kept {z : Nat} {ad av : Nat → Nat} {U : State} {H H1 : Heap} (h : z_Iv3 z ad av U H) (hq : ∀ a : Nat, a < H.size → ¬ z_A z a → H1[a]? = H[a]?) : z_Iv3 z ad av U H1 := by
  obtain ⟨h1, h2, h3, h4, h5⟩ := h
  refine ⟨fun k a b => (h1 k a b).kept hq, ⟨h2.1.kept hq, va_Zq.kept h2.2 hq⟩, fun k a b => ?_, h4.kept hq, h5.kept hq⟩
  obtain ⟨g1, g2, g3, g4⟩ := h3 k a b
  exact ⟨g1.kept hq, g2.kept hq, g3.kept hq, g4.kept hq⟩
theorem z_Iv_ok (z : Nat) (ad av sa : Nat → Nat) : z_IvOK (z_Iv z ad av sa) z :=
  ⟨fun U V H hW h => ⟨h.1.warm hW, h.2.1.warm hW, h.2.2.moved hW.alike⟩, fun U H H1 _ hq h => ⟨h.1, h.2.1, h.2.2.kept hq⟩⟩
/-! ===== the operations that ask more of the start ===== -/
section
variable {l : Launch} {z : Nat} {ad av sa : Nat → Nat} {ka : Nat → ClassId} {D : va_G}
variable {p : Program} {e : Env} {R : Room} {s : State} {m : MethodId} {args : Array Value} {below : List Frame} {meth : Method} {c : Code} {H : Heap} {locs : List Loc} {cells slots : Nat} {Q : State → Prop} {mi a b cp pc : Nat} {ls st : List Value} {G : zG} {M : zM} {L : Option Nat} {ls' st' : List Value} {G1 : zG} {M1 : zM} {arr : Array Slot}
theorem z_opD {o : Nat} (h55 : o ≠ 55) (h83 : o ≠ 83) (h88 : o < 88) (hB : z_opB mi (o, a, b, cp, pc) = true) : decode (zz_cd mi) pc = .ok (z_ins (o, a, b, cp, pc)) ∧ z_opT mi (o, a, b, cp, pc) = true := by
  unfold z_opB at hB
  dsimp only at hB
  rw [if_neg h55, if_neg h83, if_pos h88, Bool.and_eq_true] at hB
  exact ⟨of_decide_eq_true hB.1, hB.2⟩
theorem z_ts_ok : ∀ q ∈ z_ts, (q.2.2.2 = 78 → Cond.fieldLink (zz_on q.1) q.2.1 (z_sC q.2.2.1) (z_sN q.2.2.1) "[I" ∈ z_gw) ∧ (2 ≤ q.2.2.1 ∧ q.2.2.1 < 6) ∧ (q.2.2.2 = 85 → zz_on q.1 = "ChiefCircles$TextReader" ∧ (q.2.1, q.2.2.1) ∈ z_fln ∧ z_sC q.2.2.1 = "ChiefCircles") := by
  have h1 : ∀ q ∈ z_ts, (q.2.2.2 = 78 → Cond.fieldLink (zz_on q.1) q.2.1 (z_sC q.2.2.1) (z_sN q.2.2.1) "[I" ∈ lw_tbl ∧ goodWord (Cond.fieldLink (zz_on q.1) q.2.1 (z_sC q.2.2.1) (z_sN q.2.2.1) "[I") = true) ∧ (2 ≤ q.2.2.1 ∧ q.2.2.1 < 6) ∧ (q.2.2.2 = 85 → zz_on q.1 = "ChiefCircles$TextReader" ∧ (q.2.1, q.2.2.1) ∈ z_fln ∧ z_sC q.2.2.1 = "ChiefCircles") := by decide +kernel
  exact fun q hq => ⟨fun h => List.mem_filter.mpr ((h1 q hq).1 h), (h1 q hq).2⟩
theorem zs_76 (hi : z_Iv z ad av sa s s.heap) (C : z_Ctx z ad ka D mi p R s m args meth c) (hl : z_loc ad arr ls) (hR : z_Rel z ad ka D G M H) (hE : z_Ext z ad s s.heap G M) (hS : va_S (z_A z) s.heap H locs) (hcnt : s.heap.size + cells ≤ z + z_nc G) (hrm : cells + z_nc G1 ≤ R.cells + z_nc G ∧ slots + z_ns G1 ≤ R.slots + z_ns G) (hB : z_opB mi (76, a, b, cp, pc) = true) (hs : z_step 76 a b ls st G M = some (.inl (L, ls', st', G1, M1))) (kN : L = none → z_go1 p l e R s m args below meth c Q z ad ka D G cells slots (pc + (z_ins (76, a, b, cp, pc)).2) ls' st' G1 M1) : W p l e R s m args below meth c H locs cells slots Q (F0 m pc arr (st.map (z_cv ad))) := by
  obtain ⟨hd, ht⟩ := z_opD (by decide) (by decide) (by decide) hB
  have hL : L = none := by
    simp only [z_step] at hs
    split at hs
    · split at hs
      · cases hs; rfl
      · cases hs
    · cases hs
  exact zn_76 C hl hR hE hS hs (of_decide_eq_true ht) ⟨hi.1.2.2.2.2.1.1, hi.1.2.2.2.2.1.2.1⟩ hcnt hrm hd (kN hL)
theorem zs_78 (hi : z_Iv z ad av sa s s.heap) (C : z_Ctx z ad ka D mi p R s m args meth c) (hl : z_loc ad arr ls) (hR : z_Rel z ad ka D G M H) (hS : va_S (z_A z) s.heap H locs) (hB : z_opB mi (78, a, b, cp, pc) = true) (hs : z_step 78 a b ls st G M = some (.inl (L, ls', st', G1, M1))) (kN : L = none → z_go1 p l e R s m args below meth c Q z ad ka D G cells slots (pc + (z_ins (78, a, b, cp, pc)).2) ls' st' G1 M1) : W p l e R s m args below meth c H locs cells slots Q (F0 m pc arr (st.map (z_cv ad))) := by
  obtain ⟨hd, ht⟩ := z_opD (by decide) (by decide) (by decide) hB
  obtain ⟨hx, hb, hml, hrt, hown, hts, hlk, hfr, hlo, hK, hz, hnm, had, hon⟩ := C
  obtain ⟨t1, ⟨t2, t3⟩, _⟩ := z_ts_ok _ (of_decide_eq_true ht)
  cases hs
  exact va_gets hx hb (hi.2.2.1 a t2 t3) hS hown (hts _ (t1 rfl)) (fun _ h => h) hd (kN rfl H locs arr cells slots hl hR hS rfl rfl)
theorem zs_85 (hi : z_Iv z ad av sa s s.heap) (C : z_Ctx z ad ka D mi p R s m args meth c) (hl : z_loc ad arr ls) (hR : z_Rel z ad ka D G M H) (hS : va_S (z_A z) s.heap H locs) (hB : z_opB mi (85, a, b, cp, pc) = true) (hs : z_step 85 a b ls st G M = some (.inl (L, ls', st', G1, M1))) (kN : L = none → z_go1 p l e R s m args below meth c Q z ad ka D G cells slots (pc + (z_ins (85, a, b, cp, pc)).2) ls' st' G1 M1) : W p l e R s m args below meth c H locs cells slots Q (F0 m pc arr (st.map (z_cv ad))) := by
  obtain ⟨hd, ht⟩ := z_opD (by decide) (by decide) (by decide) hB
  obtain ⟨hx, hb, hml, hrt, hown, hts, hlk, hfr, hlo, hK, hz, hnm, had, hon⟩ := C
  obtain ⟨_, ⟨t2, t3⟩, t4⟩ := z_ts_ok _ (of_decide_eq_true ht)
  obtain ⟨u1, u2, u3⟩ := t4 rfl
  have hZ := hi.2.2.1 a t2 t3
  have hN := va_Nw.use rfl (A := args) (hi.1.2.1 _ u2)
  dsimp only at u1 u3 hN
  rw [u1] at hown
  rw [u3] at hZ
  cases hs
  exact va_getsN hx hb hZ hS hown hN (fun _ h => h) hd (kN rfl H locs arr cells slots hl hR hS rfl rfl)
theorem zs_79 (hi : z_Iv z ad av sa s s.heap) (C : z_Ctx z ad ka D mi p R s m args meth c) (hl : z_loc ad arr ls) (hR : z_Rel z ad ka D G M H) (hS : va_S (z_A z) s.heap H locs) (hB : z_opB mi (79, a, b, cp, pc) = true) (hs : z_step 79 a b ls st G M = some (.inl (L, ls', st', G1, M1))) (kN : L = none → z_go1 p l e R s m args below meth c Q z ad ka D G cells slots (pc + (z_ins (79, a, b, cp, pc)).2) ls' st' G1 M1) : W p l e R s m args below meth c H locs cells slots Q (F0 m pc arr (st.map (z_cv ad))) := by
  obtain ⟨hd, ht⟩ := z_opD (by decide) (by decide) (by decide) hB
  obtain ⟨hx, hb, hml, hrt, hown, hts, hlk, hfr, hlo, hK, hz, hnm, had, hon⟩ := C
  have hZ := hi.2.1.1 _ (of_decide_eq_true ht)
  cases hs
  exact va_ldcS hx hb hown hZ hd (kN rfl H locs arr cells slots hl hR hS rfl rfl)
theorem zs_84 (hi : z_Iv z ad av sa s s.heap) (C : z_Ctx z ad ka D mi p R s m args meth c) (hl : z_loc ad arr ls) (hR : z_Rel z ad ka D G M H) (hS : va_S (z_A z) s.heap H locs) (hB : z_opB mi (84, a, b, cp, pc) = true) (hs : z_step 84 a b ls st G M = some (.inl (L, ls', st', G1, M1))) (kN : L = none → z_go1 p l e R s m args below meth c Q z ad ka D G cells slots (pc + (z_ins (84, a, b, cp, pc)).2) ls' st' G1 M1) : W p l e R s m args below meth c H locs cells slots Q (F0 m pc arr (st.map (z_cv ad))) := by
  obtain ⟨hd, ht⟩ := z_opD (by decide) (by decide) (by decide) hB
  obtain ⟨hx, hb, hml, hrt, hown, hts, hlk, hfr, hlo, hK, hz, hnm, had, hon⟩ := C
  have hZ := hi.2.1.1 _ (of_decide_eq_true ht)
  have k1 := kN (by cases hs; rfl)
  cases hs
  intro T hT X
  obtain ⟨t, a1, b1⟩ := k1 H locs arr cells slots hl hR hS rfl rfl T hT X
  exact ⟨t, X.ldcStringW hx hown (text := z_sx a) (a := ad a) hZ.1 hZ.2 (g := F0 m pc arr (st.map (z_cv ad))) rfl (by rw [hb]; exact hd) t a1, b1⟩
end
