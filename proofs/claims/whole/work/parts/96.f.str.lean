/-! ===== String.length, String.charAt of our constants ===== -/
def z_yK : MethodName := ⟨"java/lang/String", "coder", "()B"⟩
def z_yI : MethodName := ⟨"java/lang/String", "isLatin1", "()Z"⟩
def z_yA : MethodName := ⟨"java/lang/StringLatin1", "charAt", "([BI)C"⟩
def z_yX : MethodName := ⟨"java/lang/String", "checkIndex", "(II)V"⟩
def z_yP : MethodName := ⟨"jdk/internal/util/Preconditions", "checkIndex", "(IILjava/util/function/BiFunction;)I"⟩
def z_bL : ByteArray := ⟨#[42, 180, 0, 9, 190, 42, 182, 1, 79, 122, 172]⟩
def z_bK : ByteArray := ⟨#[178, 0, 38, 153, 0, 10, 42, 180, 0, 15, 167, 0, 4, 4, 172]⟩
def z_bC : ByteArray := ⟨#[42, 182, 1, 236, 153, 0, 12, 42, 180, 0, 9, 27, 184, 1, 239, 172, 42, 180, 0, 9, 27, 184, 1, 242, 172]⟩
def z_bI : ByteArray := ⟨#[178, 0, 38, 153, 0, 14, 42, 180, 0, 15, 154, 0, 7, 4, 167, 0, 4, 3, 172]⟩
def z_bA : ByteArray := ⟨#[27, 42, 190, 184, 0, 9, 42, 27, 51, 17, 0, 255, 126, 146, 172]⟩
def z_bX : ByteArray := ⟨#[26, 27, 178, 4, 29, 184, 4, 35, 87, 177]⟩
def z_bP : ByteArray := ⟨#[26, 155, 0, 8, 26, 27, 161, 0, 10, 44, 26, 27, 184, 0, 95, 191, 26, 172]⟩
set_option maxRecDepth 40000 in
theorem zw_L : Cond.code z_ySL z_bL 1 (some .int) ∈ z_gw := z_inw (i := 732) rfl rfl
set_option maxRecDepth 40000 in
theorem zw_K : Cond.code z_yK z_bK 1 (some .byte) ∈ z_gw := z_inw (i := 736) rfl rfl
set_option maxRecDepth 40000 in
theorem zw_C : Cond.code z_ySC z_bC 2 (some .char) ∈ z_gw := z_inw (i := 742) rfl rfl
set_option maxRecDepth 40000 in
theorem zw_I : Cond.code z_yI z_bI 1 (some .boolean) ∈ z_gw := z_inw (i := 746) rfl rfl
set_option maxRecDepth 40000 in
theorem zw_A : Cond.code z_yA z_bA 2 (some .char) ∈ z_gw := z_inw (i := 749) rfl rfl
set_option maxRecDepth 40000 in
theorem zw_X : Cond.code z_yX z_bX 2 none ∈ z_gw := z_inw (i := 752) rfl rfl
set_option maxRecDepth 40000 in
theorem zw_P : Cond.code z_yP z_bP 3 (some .int) ∈ z_gw := z_inw (i := 757) rfl rfl
theorem zw_l : ((Cond.instanceMethod z_ySL ∈ z_gw ∧ Cond.selects "java/lang/String" z_ySL z_ySL ∈ z_gw) ∧ Cond.instanceMethod z_ySC ∈ z_gw ∧ Cond.selects "java/lang/String" z_ySC z_ySC ∈ z_gw) ∧ (Cond.methodLink "java/lang/String" 335 z_yK ∈ z_gw ∧ Cond.instanceMethod z_yK ∈ z_gw ∧ Cond.selects "java/lang/String" z_yK z_yK ∈ z_gw) ∧ (Cond.methodLink "java/lang/String" 492 z_yI ∈ z_gw ∧ Cond.instanceMethod z_yI ∈ z_gw ∧ Cond.selects "java/lang/String" z_yI z_yI ∈ z_gw) :=
  ⟨⟨⟨z_inw (i := 730) (by decide +kernel) rfl, z_inw (i := 731) (by decide +kernel) rfl⟩, z_inw (i := 740) (by decide +kernel) rfl, z_inw (i := 741) (by decide +kernel) rfl⟩, ⟨z_inw (i := 733) (by decide +kernel) rfl, z_inw (i := 734) (by decide +kernel) rfl, z_inw (i := 735) (by decide +kernel) rfl⟩, z_inw (i := 743) (by decide +kernel) rfl, z_inw (i := 744) (by decide +kernel) rfl, z_inw (i := 745) (by decide +kernel) rfl⟩
theorem zz_ws : (Cond.methodLink "java/lang/String" 495 z_yA ∈ z_gw ∧ Cond.static z_yA ∈ z_gw ∧ Cond.initialized "java/lang/StringLatin1" ∈ z_gw) ∧ (Cond.methodLink "java/lang/StringLatin1" 9 z_yX ∈ z_gw ∧ Cond.static z_yX ∈ z_gw ∧ Cond.initialized "java/lang/String" ∈ z_gw) ∧ (Cond.methodLink "java/lang/String" 1059 z_yP ∈ z_gw ∧ Cond.static z_yP ∈ z_gw ∧ Cond.initialized "jdk/internal/util/Preconditions" ∈ z_gw) :=
  ⟨⟨z_inw (i := 747) (by decide +kernel) rfl, z_inw (i := 748) (by decide +kernel) rfl, z_inw (i := 114) (by decide +kernel) rfl⟩, ⟨z_inw (i := 750) (by decide +kernel) rfl, z_inw (i := 751) (by decide +kernel) rfl, z_inw (i := 113) (by decide +kernel) rfl⟩, z_inw (i := 755) (by decide +kernel) rfl, z_inw (i := 756) (by decide +kernel) rfl, z_inw (i := 115) (by decide +kernel) rfl⟩
theorem zw_f : (Cond.fieldLink "java/lang/String" 38 "java/lang/String" "COMPACT_STRINGS" "Z" ∈ z_gw ∧ Cond.fieldLink "java/lang/String" 9 "java/lang/String" "value" "[B" ∈ z_gw) ∧ Cond.fieldLink "java/lang/String" 15 "java/lang/String" "coder" "B" ∈ z_gw ∧ Cond.fieldLink "java/lang/String" 1053 "jdk/internal/util/Preconditions" "SIOOBE_FORMATTER" "Ljava/util/function/BiFunction;" ∈ z_gw :=
  ⟨⟨z_inw (i := 737) (by decide +kernel) rfl, z_inw (i := 1619) (by decide +kernel) rfl⟩, z_inw (i := 1620) (by decide +kernel) rfl, z_inw (i := 753) (by decide +kernel) rfl⟩
theorem z_gI {L : List Cond} (h : ∀ x ∈ L, x ∈ z_gw) : GoodIn z_gw L := fun x hx => ⟨h x hx, good_of_word (List.mem_filter.mp (h x hx)).2⟩
def z_F0 : Nat → Prop := fun _ => False
theorem z_S0 {A : Nat → Prop} {H0 H : Heap} {L : List Loc} (h : va_S z_F0 H0 H L) : va_S A H0 H L := ⟨h.1, fun q hq _ => h.2.1 q hq (fun x => x), fun l hl => (h.2.2 l hl).elim⟩
abbrev z_Qs (v : Int32) : Array Value → State → Outcome → State → Prop := va_Qi (fun r (_ : Unit) => r = v) (fun _ _ => True) z_F0
abbrev zz_Ps (z : Nat) (ad av : Nat → Nat) (vs : List Value) : Array Value → State → Prop := va_Pc vs (fun U => z_Iv3 z ad av U U.heap)
theorem z_bl (z : Nat) (ad av : Nat → Nat) (vs : List Value) : FrameBlind (zz_Ps z ad av vs) := fun a U g mk q => ⟨q.1, z_Iv3.moved (s := U) (U := U.calling g mk a) (H := U.heap) (Vm.Alike.refl U.vm) q.2⟩
section
variable {l : Launch} {z : Nat} {ad av : Nat → Nat} {k : Nat}
theorem dK : (decode z_bK 0 = .ok (.getstatic 38, 3) ∧ decode z_bK 3 = .ok (.ifCond .eq 10, 3) ∧ decode z_bK 6 = .ok (.aload_n 0, 1)) ∧ decode z_bK 7 = .ok (.getfield 15, 3) ∧ decode z_bK 10 = .ok (.goto 4, 3) ∧ decode z_bK 14 = .ok (.ireturn, 1) := by decide +kernel
theorem z_mK (h6 : 6 ≤ k) (h20 : k < 20) : Met l z_yK (Cond.code z_yK z_bK 1 (some .byte) :: z_gw) { frames := 0, cells := 0, slots := 0, locals := 0 } (zz_Ps z ad av [.ref (ad k)]) (z_Qs 0) 0 0 z_F0 := by
  obtain ⟨⟨d0, d3, d6⟩, d7, d10, d14⟩ := dK
  refine Met.ofW (cc := z_bK) (maxL := 1) (ret := some .byte) (by decide) rfl ?_
  intro p e s m args below meth c s₁ B hml hv
  obtain ⟨rfl, hi⟩ := hv
  have hx := B.exec
  have hb := B.bytes
  have hts := atoms_spec (ws := Cond.code z_yK z_bK 1 (some .byte) :: z_gw) B.pre
  have hg : ∀ w ∈ z_gw, w.before #[Value.ref (ad k)] s = true := fun w hw => hts w (List.mem_cons_of_mem _ hw)
  have hown : s.vm.findClass "java/lang/String" = some m.cls := findClass_of_methodNamed B.named
  have hS0 : va_S z_F0 s.heap s.heap [] := va_S.rf
  have hS : va_S (z_A z) s.heap s.heap [] := va_S.rf
  have hl := lv_entry [Value.ref (ad k)] (n := 1) (Nat.le_of_ble_eq_true rfl)
  rw [lg_entry_eq]
  generalize (lg_sl [Value.ref (ad k)] ++ List.replicate (1 - (lg_sl [Value.ref (ad k)]).length) Slot.unset).toArray = ls at hl ⊢
  obtain ⟨g1, g2, g3, g4⟩ := hi.2.2.1 k h6 h20
  refine va_gets hx hb hi.2.1.1 hS hown (hg _ zw_f.1.1) (fun _ h => h) d0 ?_
  refine lv_if_eq (tgt := 13) hx hb d3 (by decide) (fun hc => absurd hc (by decide)) (fun hc => ?_)
  refine lv_aload_n hx hb d6 rfl (lv_at hl 0 rfl) ?_
  refine vk_getf hx hb g2 hS hown (hg _ zw_f.2.1) (fun _ h => h) d7 ?_
  refine lv_goto (tgt := 14) hx hb d10 (by decide) ?_
  exact W.zret (ty := .byte) (v := 0) hx hb B.returns rfl (fun t ht hW => ⟨⟨0, (), rfl, rfl, trivial⟩, hS0.F ht⟩) hS0.2.2 d14
theorem dI9 : (decode z_bI 0 = .ok (.getstatic 38, 3) ∧ decode z_bI 3 = .ok (.ifCond .eq 14, 3) ∧ decode z_bI 6 = .ok (.aload_n 0, 1)) ∧ (decode z_bI 7 = .ok (.getfield 15, 3) ∧ decode z_bI 10 = .ok (.ifCond .ne 7, 3) ∧ decode z_bI 13 = .ok (.iconst 1, 1)) ∧ decode z_bI 14 = .ok (.goto 4, 3) ∧ decode z_bI 18 = .ok (.ireturn, 1) := by decide +kernel
theorem z_mI (h6 : 6 ≤ k) (h20 : k < 20) : Met l z_yI (Cond.code z_yI z_bI 1 (some .boolean) :: z_gw) { frames := 0, cells := 0, slots := 0, locals := 0 } (zz_Ps z ad av [.ref (ad k)]) (z_Qs 1) 0 0 z_F0 := by
  obtain ⟨⟨d0, d3, d6⟩, ⟨d7, d10, d13⟩, d14, d18⟩ := dI9
  refine Met.ofW (cc := z_bI) (maxL := 1) (ret := some .boolean) (by decide) rfl ?_
  intro p e s m args below meth c s₁ B hml hv
  obtain ⟨rfl, hi⟩ := hv
  have hx := B.exec
  have hb := B.bytes
  have hts := atoms_spec (ws := Cond.code z_yI z_bI 1 (some .boolean) :: z_gw) B.pre
  have hg : ∀ w ∈ z_gw, w.before #[Value.ref (ad k)] s = true := fun w hw => hts w (List.mem_cons_of_mem _ hw)
  have hown : s.vm.findClass "java/lang/String" = some m.cls := findClass_of_methodNamed B.named
  have hS0 : va_S z_F0 s.heap s.heap [] := va_S.rf
  have hS : va_S (z_A z) s.heap s.heap [] := va_S.rf
  have hl := lv_entry [Value.ref (ad k)] (n := 1) (Nat.le_of_ble_eq_true rfl)
  rw [lg_entry_eq]
  generalize (lg_sl [Value.ref (ad k)] ++ List.replicate (1 - (lg_sl [Value.ref (ad k)]).length) Slot.unset).toArray = ls at hl ⊢
  obtain ⟨g1, g2, g3, g4⟩ := hi.2.2.1 k h6 h20
  refine va_gets hx hb hi.2.1.1 hS hown (hg _ zw_f.1.1) (fun _ h => h) d0 ?_
  refine lv_if_eq (tgt := 17) hx hb d3 (by decide) (fun hc => absurd hc (by decide)) (fun hc => ?_)
  refine lv_aload_n hx hb d6 rfl (lv_at hl 0 rfl) ?_
  refine vk_getf hx hb g2 hS hown (hg _ zw_f.2.1) (fun _ h => h) d7 ?_
  refine lv_if_ne (tgt := 17) hx hb d10 (by decide) (fun hc => absurd rfl hc) (fun hc => ?_)
  refine lv_iconst (v := 1) hx hb d13 (by decide) ?_
  refine lv_goto (tgt := 18) hx hb d14 (by decide) ?_
  exact W.zret (ty := .boolean) (v := 1) hx hb B.returns rfl (fun t ht hW => ⟨⟨1, (), rfl, rfl, trivial⟩, hS0.F ht⟩) hS0.2.2 d18
theorem dP9 : (decode z_bP 0 = .ok (.iload_n 0, 1) ∧ decode z_bP 1 = .ok (.ifCond .lt 8, 3) ∧ decode z_bP 4 = .ok (.iload_n 0, 1)) ∧ (decode z_bP 5 = .ok (.iload_n 1, 1) ∧ decode z_bP 6 = .ok (.if_icmp .lt 10, 3)) ∧ decode z_bP 16 = .ok (.iload_n 0, 1) ∧ decode z_bP 17 = .ok (.ireturn, 1) := by decide +kernel
theorem z_mP {i n : Int32} {r : Value} (hr : r.isRef = true) (h1 : ¬ i < 0) (h2 : i < n) : Met l z_yP (Cond.code z_yP z_bP 3 (some .int) :: z_gw) { frames := 0, cells := 0, slots := 0, locals := 0 } (zz_Ps z ad av [.int i, .int n, r]) (z_Qs i) 0 0 z_F0 := by
  obtain ⟨⟨d0, d1, d4⟩, ⟨d5, d6⟩, d16, d17⟩ := dP9
  refine Met.ofW (cc := z_bP) (maxL := 3) (ret := some .int) (by decide) rfl ?_
  intro p e s m args below meth c s₁ B hml hv
  obtain ⟨rfl, hi⟩ := hv
  have hx := B.exec
  have hb := B.bytes
  have hS0 : va_S z_F0 s.heap s.heap [] := va_S.rf
  have hlen : (lg_sl [Value.int i, .int n, r]).length ≤ 3 := by cases r <;> first | exact Nat.le_of_ble_eq_true rfl | cases hr
  have hl := lv_entry [Value.int i, .int n, r] (n := 3) hlen
  have hl0 : (0, Value.int i) ∈ lv_args 0 [Value.int i, .int n, r] := List.mem_cons_self
  rw [lg_entry_eq]
  generalize (lg_sl [Value.int i, .int n, r] ++ List.replicate (3 - (lg_sl [Value.int i, .int n, r]).length) Slot.unset).toArray = ls at hl ⊢
  refine lv_iload_n hx hb d0 rfl (lv_at hl 0 rfl) ?_
  refine lv_if_lt (tgt := 9) hx hb d1 (by decide) (fun hc => absurd hc h1) (fun hc => ?_)
  refine lv_iload_n hx hb d4 rfl (lv_at hl 0 rfl) ?_
  refine lv_iload_n hx hb d5 rfl (lv_at hl 1 rfl) ?_
  refine lv_icmp_lt (tgt := 16) hx hb d6 (by decide) (fun hc => ?_) (fun hc => absurd h2 hc)
  refine lv_iload_n hx hb d16 rfl (lv_at hl 0 rfl) ?_
  exact W.iret (v := i) hx hb B.returns (fun t ht hW => ⟨⟨i, (), rfl, rfl, trivial⟩, hS0.F ht⟩) hS0.2.2 d17
end
