/-! ===== String.length, String.charAt as operations; all the operations of the start ===== -/
section
variable {l : Launch} {z : Nat} {ad av sa : Nat → Nat} {ka : Nat → ClassId} {D : va_G}
variable {p : Program} {e : Env} {R : Room} {s : State} {m : MethodId} {args : Array Value} {below : List Frame} {meth : Method} {c : Code} {H : Heap} {locs : List Loc} {cells slots : Nat} {Q : State → Prop} {mi a b cp pc : Nat} {ls st : List Value} {G : zG} {M : zM} {L : Option Nat} {ls' st' : List Value} {G1 : zG} {M1 : zM} {arr : Array Slot}
theorem z_RelQ {H1 : Heap} (hR : z_Rel z ad ka D G M H) (h : ∀ q : Nat, q < H.size → ¬ z_F0 q → H1[q]? = H[q]?) : z_Rel z ad ka D G M H1 :=
  ⟨hR.1.kept (fun k x hx => h x.1 ((hR.1 k x hx).lt) (fun q => q)), hR.2⟩
theorem zs_81 (hi : z_Iv z ad av sa s s.heap) (C : z_Ctx z ad ka D mi p R s m args meth c) (hl : z_loc ad arr ls) (hll : ls.length = z_mxl mi) (hR : z_Rel z ad ka D G M H) (hS : va_S (z_A z) s.heap H locs) (hrm : cells ≤ R.cells ∧ slots ≤ R.slots) (hB : z_opB mi (81, a, b, cp, pc) = true) (hs : z_step 81 a b ls st G M = some (.inl (L, ls', st', G1, M1))) (kN : L = none → z_go1 p l e R s m args below meth c Q z ad ka D G cells slots (pc + (z_ins (81, a, b, cp, pc)).2) ls' st' G1 M1) : W p l e R s m args below meth c H locs cells slots Q (F0 m pc arr (st.map (z_cv ad))) := by
  obtain ⟨hd, ht⟩ := z_opD (by decide) (by decide) (by decide) hB
  obtain ⟨hx, hb, hml, hrt, hown, hts, hlk, hfr, hlo, hK, hz, hnm, had, hon⟩ := C
  have hT : (z_ow mi, cp) ∈ z_tg ∧ 6 ≤ z_fr mi ∧ 160 ≤ zz_lo mi := of_decide_eq_true ht
  simp only [z_step] at hs
  split at hs
  · rename_i k r
    split at hs
    · rename_i hc
      cases hs
      have kk := kN rfl
      have h3 := hi.2.2.kept hS.2.1
      have g1 := (hi.2.2.2.2.1 k hc.1.1 hc.1.2).1
      have cw := cwV (R := R) (s := s) (args := args) (own := zz_on (z_ow mi)) (index := cp) (C := "java/lang/String") (y := z_ySL) (bytes := z_bL) (maxL := 1) (ret := some .int) (ws := Cond.code z_ySL z_bL 1 (some .int) :: z_gw) (rm := { frames := 1, cells := 0, slots := 0, locals := 20 }) (mc := 0) (ms := 0) 0 hts (z_gI (fun x hx => by
        simp only [wsV, List.cons_append, List.nil_append, List.mem_cons] at hx
        rcases hx with rfl | rfl | rfl | rfl | rfl | hx
        · exact z_tg_ok _ hT.1
        · exact zw_l.1.1.1
        · exact zw_l.1.1.2
        · exact zz_ws.2.1.2.2
        · exact zw_L
        · exact hx)) rfl rfl rfl (by decide +kernel) ⟨Nat.le_trans (by show 1 + 1 ≤ 6; omega) (Nat.le_trans hT.2.1 hfr), Nat.le_trans (by show 8 + (1 + 11) + 20 ≤ 160; omega) (Nat.le_trans hT.2.2 hlo)⟩
      refine va_calli (va_runV (As := []) (b := ad k) (rest := r.map (z_cv ad)) ⟨hx, hb, hml, hown, hts⟩ (z_mL (z := z) (ad := ad) (av := av) hc.1.1 hc.1.2) cw ⟨z_bl _ _ _ _, z_rcS g1 hS, fun U hU hW => ⟨rfl, by show z_Iv3 z ad av U U.heap; rw [hU]; exact z_Iv3.moved hW.alike h3⟩⟩ rfl rfl (hl.1.trans hll) rfl (lv_room (by rw [z_cat_sum]; exact hc.2)) hd hrm) hS (fun _ _ h => h.elim) (fun _ h => h.elim) (fun r1 u t H1 locs1 _ _ hr1 _ _ hq hS1 => ?_)
      subst hr1
      exact kk H1 locs1 arr _ _ hl (z_RelQ hR hq) hS1 rfl rfl
    · cases hs
  · cases hs
theorem zs_82 (hi : z_Iv z ad av sa s s.heap) (C : z_Ctx z ad ka D mi p R s m args meth c) (hl : z_loc ad arr ls) (hll : ls.length = z_mxl mi) (hR : z_Rel z ad ka D G M H) (hS : va_S (z_A z) s.heap H locs) (hrm : cells ≤ R.cells ∧ slots ≤ R.slots) (hB : z_opB mi (82, a, b, cp, pc) = true) (hs : z_step 82 a b ls st G M = some (.inl (L, ls', st', G1, M1))) (kN : L = none → z_go1 p l e R s m args below meth c Q z ad ka D G cells slots (pc + (z_ins (82, a, b, cp, pc)).2) ls' st' G1 M1) : W p l e R s m args below meth c H locs cells slots Q (F0 m pc arr (st.map (z_cv ad))) := by
  obtain ⟨hd, ht⟩ := z_opD (by decide) (by decide) (by decide) hB
  obtain ⟨hx, hb, hml, hrt, hown, hts, hlk, hfr, hlo, hK, hz, hnm, had, hon⟩ := C
  have hT : (z_ow mi, cp) ∈ z_th ∧ 6 ≤ z_fr mi ∧ 160 ≤ zz_lo mi := of_decide_eq_true ht
  simp only [z_step] at hs
  split at hs
  · rename_i i k r
    split at hs
    · rename_i hc
      obtain ⟨hc1, ⟨hp, hlt⟩, hc2⟩ := hc
      cases hs
      have kk := kN rfl
      have h3 := hi.2.2.kept hS.2.1
      have g1 := (hi.2.2.2.2.1 k hc1.1 hc1.2).1
      obtain ⟨j, hj⟩ : ∃ j, i.toNatClampNeg = j := ⟨_, rfl⟩
      have hij : i = nI j := by
        rw [← hj]
        have h0 : 0 ≤ i := Int32.not_lt.mp hp
        rw [← Int32.toInt_inj, nI, Int32.toInt_ofNat_of_lt (by have := Int32.toInt_lt i; have := Int32.le_iff_toInt_le.mp h0; rw [Int32.toNatClampNeg]; omega)]
        have := Int32.le_iff_toInt_le.mp h0
        rw [Int32.toNatClampNeg]
        show _ = ((i.toInt.toNat : Nat) : Int)
        have e0 : (0 : Int32).toInt = 0 := rfl
        omega
      rw [hj] at hlt kk
      rw [hij]
      have cw := cwV (R := R) (s := s) (args := args) (own := zz_on (z_ow mi)) (index := cp) (C := "java/lang/String") (y := z_ySC) (bytes := z_bC) (maxL := 2) (ret := some .char) (ws := Cond.code z_ySC z_bC 2 (some .char) :: z_gw) (rm := { frames := 3, cells := 0, slots := 0, locals := 64 }) (mc := 0) (ms := 0) 1 hts (z_gI (fun x hx => by
        simp only [wsV, List.cons_append, List.nil_append, List.mem_cons] at hx
        rcases hx with rfl | rfl | rfl | rfl | rfl | hx
        · exact z_th_ok _ hT.1
        · exact zw_l.1.2.1
        · exact zw_l.1.2.2
        · exact zz_ws.2.1.2.2
        · exact zw_C
        · exact hx)) rfl rfl rfl (by decide +kernel) ⟨Nat.le_trans (by show 3 + 1 ≤ 6; omega) (Nat.le_trans hT.2.1 hfr), Nat.le_trans (by show 8 + (2 + 11) + 64 ≤ 160; omega) (Nat.le_trans hT.2.2 hlo)⟩
      refine va_calli (va_runV (As := [.int (nI j)]) (b := ad k) (rest := r.map (z_cv ad)) ⟨hx, hb, hml, hown, hts⟩ (z_mC (z := z) (ad := ad) (av := av) hc1.1 hc1.2 hlt) cw ⟨z_bl _ _ _ _, z_rcS g1 hS, fun U hU hW => ⟨rfl, by show z_Iv3 z ad av U U.heap; rw [hU]; exact z_Iv3.moved hW.alike h3⟩⟩ rfl rfl (hl.1.trans hll) rfl (lv_room (by rw [z_cat_sum]; exact hc2)) hd hrm) hS (fun _ _ h => h.elim) (fun _ h => h.elim) (fun r1 u t H1 locs1 _ _ hr1 _ _ hq hS1 => ?_)
      subst hr1
      exact kk H1 locs1 arr _ _ hl (z_RelQ hR hq) hS1 rfl rfl
    · cases hs
  · cases hs
theorem z_SpOK_ok : z_SpOK l (z_Iv z ad av sa) z ad ka D := by
  intro p e R s m args below meth c H locs cells slots Q mi o a b cp pc ls st G M L ls' st' G1 M1 arr ho C hi hl hR hE hS hll hrm hcnt hrm2 hB hs kN
  rcases ho with rfl | rfl | rfl | rfl | rfl | rfl | rfl | rfl
  · exact zs_76 hi C hl hR hE hS hcnt hrm2 hB hs kN
  · exact zs_77 hi C hl hR hS hcnt hrm2 hB hs kN
  · exact zs_78 hi C hl hR hS hB hs kN
  · exact zs_79 hi C hl hR hS hB hs kN
  · exact zs_81 hi C hl hll hR hS hrm hB hs kN
  · exact zs_82 hi C hl hll hR hS hrm hB hs kN
  · exact zs_84 hi C hl hR hS hB hs kN
  · exact zs_85 hi C hl hR hS hB hs kN
end
