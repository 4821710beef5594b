/-! ===== the small machine's steps are the real machine's: switches, what makes cells ===== -/
section
variable {p : Program} {l : Launch} {e : Env} {R : Room} {s : State} {m : MethodId} {args : Array Value} {below : List Frame} {meth : Method} {c : Code} {H : Heap} {locs : List Loc} {cells slots : Nat} {Q : State → Prop}
variable {z : Nat} {ad : Nat → Nat} {ka : Nat → ClassId} {D : va_G} {mi a b cp pc : Nat} {ls st : List Value} {G : zG} {M : zM} {L : Option Nat} {ls' st' : List Value} {G1 : zG} {M1 : zM} {arr : Array Slot}
theorem z_kd_new (G : zG) (kind : Nat × Nat) (sl : Nat) : z_kd (z_new G kind sl) (z_np G) = kind := by simp [z_kd, z_new, z_np]
theorem z_kd_newN (G : zG) (kind : Nat × Nat) (sl : Nat) {q : Nat} (h : q ≠ z_np G) : z_kd (z_new G kind sl) q = z_kd G q := by
  have h' : ¬ q = G.1.1 := h
  simp [z_kd, z_new, h']
theorem z_cell_newN (ad : Nat → Nat) (ka : Nat → ClassId) (G : zG) (M : zM) (kind : Nat × Nat) (sl : Nat) (f : Nat → Int32) {q : Nat} (h : q ≠ z_np G) : z_cell ad ka (z_new G kind sl) (z_sA M (z_np G) f) q = z_cell ad ka G M q := by
  have h' : ¬ q = G.1.1 := h
  have e1 : z_rf (z_new G kind sl) q = z_rf G q := by funext j; simp [z_rf, z_new, h']
  have e2 : z_lg (z_new G kind sl) q = z_lg G q := by funext j; simp [z_lg, z_new, h']
  unfold z_cell
  rw [e1, e2, z_kd_newN G kind sl h, z_sA_n M _ _ f h]
theorem z_rf_new (G : zG) (kind : Nat × Nat) (sl : Nat) : z_rf (z_new G kind sl) (z_np G) = fun _ => 0 := by funext j; simp [z_rf, z_new, z_np]
theorem z_lg_new (G : zG) (kind : Nat × Nat) (sl : Nat) : z_lg (z_new G kind sl) (z_np G) = fun _ => 0 := by funext j; simp [z_lg, z_new, z_np]
theorem z_Rel.push (hR : z_Rel z ad ka D G M H) {kind : Nat × Nat} {sl : Nat} {H1 : Heap} (hsz : H.size = z + (z_np G - 32)) (hkp : ∀ q, q < H.size → H1[q]? = H[q]?)
    (hat : va_at D z_cl (z + (z_np G - 32), z_cell ad ka (z_new G kind sl) (z_sA M (z_np G) (fun _ => 0)) (z_np G)) H1) : z_Rel z ad ka D (z_new G kind sl) (z_sA M (z_np G) (fun _ => 0)) H1 := by
  have en : z_np (z_new G kind sl) = z_np G + 1 := rfl
  have ec : z_nc (z_new G kind sl) = z_nc G + 1 := rfl
  refine ⟨?_, by rw [en]; have := hR.2.1; omega, by rw [en, ec]; have := hR.2.2.1; omega, fun q hq => ?_⟩
  · rw [z_ws_push hR.2.1 en (fun q' h' => z_cell_newN ad ka G M kind sl _ (by omega))]
    refine va_P.app (hR.1.kept (fun k x hk => hkp x.1 (hR.1 k x hk).lt)) (fun k x hk => ?_)
    have hz : k < 1 := (List.getElem?_eq_some_iff.mp hk).1
    rw [show k = 0 by omega] at hk
    cases hk
    exact hat
  · rw [en] at hq
    rw [z_kd_newN G kind sl (by omega)]
    exact hR.2.2.2 q (by omega)
theorem z_S_push (hS : va_S (z_A z) s.heap H locs) {H1 : Heap} (z1 : H1.size = H.size + 1) (hkp : ∀ q, q < H.size → H1[q]? = H[q]?) : va_S (z_A z) s.heap H1 locs :=
  ⟨Nat.le_trans hS.1 (by omega), fun x h1 h2 => (hkp x (Nat.lt_of_lt_of_le h1 hS.1)).trans (hS.2.1 x h1 h2), hS.2.2⟩
theorem zn_73 (C : z_Ctx z ad ka D mi p R s m args meth c) (hl : z_loc ad arr ls) (hR : z_Rel z ad ka D G M H) (hE : z_Ext z ad s s.heap G M) (hS : va_S (z_A z) s.heap H locs) (hs : z_step 73 a b ls st G M = some (.inl (L, ls', st', G1, M1))) (ha : (z_ow mi, cp, a) ∈ z_tn ∧ a < 8) (hcnt : s.heap.size + cells ≤ z + z_nc G) (hrm : cells + z_nc G1 ≤ R.cells + z_nc G ∧ slots + z_ns G1 ≤ R.slots + z_ns G) (hd : decode (zz_cd mi) pc = .ok (.new cp, 3)) (kk : z_go1 p l e R s m args below meth c Q z ad ka D G cells slots (pc + 3) ls' st' G1 M1) : W p l e R s m args below meth c H locs cells slots Q (F0 m pc arr (st.map (z_cv ad))) := by
  obtain ⟨hx, hb, hml, hrt, hown, hts, hlk, hfr, hlo, hK, hz, hnm, had, hon⟩ := C
  simp only [z_step] at hs
  split at hs
  · rename_i hc
    cases hs
    refine z_size (fun hsz => ?_)
    have hsz2 : H.size = z + (z_np G - 32) := by have := hR.size (Nat.le_trans hz hS.1); omega
    obtain ⟨c1, c2, c3, c4, c5⟩ := z_cok ha.2
    have hKn := hK.1 a _ c1
    have e1c : z_nc (z_new G (0, a) (z_nf a)) = z_nc G + 1 := rfl
    have e1s : z_ns (z_new G (0, a) (z_nf a)) = z_ns G + z_nf a := rfl
    refine W.newcK (n := z_nf a) hx hb hown (hts _ (z_tn_l _ ha.1)) (hts _ (z_tn_i _ ha.1)) (hts _ (z_tn_n _ ha.1)) rfl hd (by omega) (by omega) hKn.2.1 hsz2 (fun H1 kC hkC e1 z1 o1 => ?_)
    have hkp : ∀ q, q < H.size → H1[q]? = H[q]? := fun q hq => o1 q (by omega)
    refine W.eq (g2 := F0 m (pc + 3) arr (.ref (ad (z_np G)) :: st.map (z_cv ad))) (by rw [had _ hR.2.1]) (kk H1 locs arr (cells + 1) (slots + z_nf a) hl (hR.push hsz2 hkp ?_) (z_S_push hS (by omega) hkp) (by omega) (by omega))
    rw [z_cell_obj (z_kd_new G (0, a) (z_nf a)), z_rf_new, z_sA_s]
    refine ⟨_, c1, (u_born (z_Cty a) hts c2 hKn hkC e1 c3).to (fun j hj => ?_)⟩
    have e9 := z_fs_at ad (ci := a) (fun _ => 0) (fun _ => 0) hj
    simp only [vp_V, List.getD_eq_getElem?_getD, e9, Option.getD_some]
    cases hr : z_isR a j with
    | false => rw [(c5 j hj).2.1 hr]; rfl
    | true => rcases (c5 j hj).2.2 hr with ⟨C0, h0⟩ | ⟨t0, h0⟩ <;> rw [h0] <;> rfl
  · cases hs
theorem zn_74 (C : z_Ctx z ad ka D mi p R s m args meth c) (hl : z_loc ad arr ls) (hR : z_Rel z ad ka D G M H) (hE : z_Ext z ad s s.heap G M) (hS : va_S (z_A z) s.heap H locs) (hs : z_step 74 a b ls st G M = some (.inl (L, ls', st', G1, M1))) (hcnt : s.heap.size + cells ≤ z + z_nc G) (hrm : cells + z_nc G1 ≤ R.cells + z_nc G ∧ slots + z_ns G1 ≤ R.slots + z_ns G) (hd : decode (zz_cd mi) pc = .ok (.newarray .int, 2)) (kk : z_go1 p l e R s m args below meth c Q z ad ka D G cells slots (pc + 2) ls' st' G1 M1) : W p l e R s m args below meth c H locs cells slots Q (F0 m pc arr (st.map (z_cv ad))) := by
  obtain ⟨hx, hb, hml, hrt, hown, hts, hlk, hfr, hlo, hK, hz, hnm, had, hon⟩ := C
  simp only [z_step] at hs
  split at hs
  · rename_i n r
    split at hs
    · rename_i hc
      cases hs
      refine z_size (fun hsz => ?_)
      have hsz2 : H.size = z + (z_np G - 32) := by have := hR.size (Nat.le_trans hz hS.1); omega
      have e1c : z_nc (z_new G (1, n.toNatClampNeg) n.toNatClampNeg) = z_nc G + 1 := rfl
      have e1s : z_ns (z_new G (1, n.toNatClampNeg) n.toNatClampNeg) = z_ns G + n.toNatClampNeg := rfl
      refine va_newaK (atype := .int) hx hb (hts _ z_w_ia) rfl hd rfl hc.2.1 rfl (by show n.toNatClampNeg * 4 ≤ 536870912; have := hc.2.2; omega) (by omega) (by omega) hsz2 (fun H1 cA e1 z1 o1 _ hfc => ?_)
      have hkp : ∀ q, q < H.size → H1[q]? = H[q]? := fun q hq => o1 q (by omega)
      have hcA : ka 1 = cA := Option.some.inj ((hK.2 0 _ rfl).2.symm.trans hfc)
      refine W.eq (g2 := F0 m (pc + 2) arr (.ref (ad (z_np G)) :: r.map (z_cv ad))) (by rw [had _ hR.2.1]) (kk H1 locs arr (cells + 1) (slots + n.toNatClampNeg) hl (hR.push hsz2 hkp ?_) (z_S_push hS (by omega) hkp) (by omega) (by omega))
      have hk1 := z_kd_new G (1, n.toNatClampNeg) n.toNatClampNeg
      rw [z_cell_int (by rw [hk1]), hk1, z_sA_s, hcA]
      exact e1
    · cases hs
  · cases hs
theorem zn_75 (C : z_Ctx z ad ka D mi p R s m args meth c) (hl : z_loc ad arr ls) (hR : z_Rel z ad ka D G M H) (hE : z_Ext z ad s s.heap G M) (hS : va_S (z_A z) s.heap H locs) (hs : z_step 75 a b ls st G M = some (.inl (L, ls', st', G1, M1))) (hcnt : s.heap.size + cells ≤ z + z_nc G) (hrm : cells + z_nc G1 ≤ R.cells + z_nc G ∧ slots + z_ns G1 ≤ R.slots + z_ns G) (hd : decode (zz_cd mi) pc = .ok (.newarray .long, 2)) (kk : z_go1 p l e R s m args below meth c Q z ad ka D G cells slots (pc + 2) ls' st' G1 M1) : W p l e R s m args below meth c H locs cells slots Q (F0 m pc arr (st.map (z_cv ad))) := by
  obtain ⟨hx, hb, hml, hrt, hown, hts, hlk, hfr, hlo, hK, hz, hnm, had, hon⟩ := C
  simp only [z_step] at hs
  split at hs
  · rename_i n r
    split at hs
    · rename_i hc
      cases hs
      refine z_size (fun hsz => ?_)
      have hsz2 : H.size = z + (z_np G - 32) := by have := hR.size (Nat.le_trans hz hS.1); omega
      have e1c : z_nc (z_new G (2, n.toNatClampNeg) n.toNatClampNeg) = z_nc G + 1 := rfl
      have e1s : z_ns (z_new G (2, n.toNatClampNeg) n.toNatClampNeg) = z_ns G + n.toNatClampNeg := rfl
      refine va_newaK (atype := .long) hx hb (hts _ z_w_la) rfl hd rfl hc.2.1 rfl (by show n.toNatClampNeg * 8 ≤ 536870912; have := hc.2.2; omega) (by omega) (by omega) hsz2 (fun H1 cA e1 z1 o1 _ hfc => ?_)
      have hkp : ∀ q, q < H.size → H1[q]? = H[q]? := fun q hq => o1 q (by omega)
      have hcA : ka 2 = cA := Option.some.inj ((hK.2 1 _ rfl).2.symm.trans hfc)
      refine W.eq (g2 := F0 m (pc + 2) arr (.ref (ad (z_np G)) :: r.map (z_cv ad))) (by rw [had _ hR.2.1]) (kk H1 locs arr (cells + 1) (slots + n.toNatClampNeg) hl (hR.push hsz2 hkp ?_) (z_S_push hS (by omega) hkp) (by omega) (by omega))
      have hk1 := z_kd_new G (2, n.toNatClampNeg) n.toNatClampNeg
      rw [z_cell_long (by rw [hk1]), hk1, z_lg_new, hcA]
      exact e1
    · cases hs
  · cases hs
theorem zn_76 (C : z_Ctx z ad ka D mi p R s m args meth c) (hl : z_loc ad arr ls) (hR : z_Rel z ad ka D G M H) (hE : z_Ext z ad s s.heap G M) (hS : va_S (z_A z) s.heap H locs) (hs : z_step 76 a b ls st G M = some (.inl (L, ls', st', G1, M1))) (ha : (z_ow mi, cp, a) ∈ z_ta) (hAO : va_AO "ChiefCircles$Member" s ∧ va_AO "ChiefCircles$World" s) (hcnt : s.heap.size + cells ≤ z + z_nc G) (hrm : cells + z_nc G1 ≤ R.cells + z_nc G ∧ slots + z_ns G1 ≤ R.slots + z_ns G) (hd : decode (zz_cd mi) pc = .ok (.anewarray cp, 3)) (kk : z_go1 p l e R s m args below meth c Q z ad ka D G cells slots (pc + 3) ls' st' G1 M1) : W p l e R s m args below meth c H locs cells slots Q (F0 m pc arr (st.map (z_cv ad))) := by
  obtain ⟨hx, hb, hml, hrt, hown, hts, hlk, hfr, hlo, hK, hz, hnm, had, hon⟩ := C
  simp only [z_step] at hs
  split at hs
  · rename_i n r
    split at hs
    · rename_i hc
      cases hs
      refine z_size (fun hsz => ?_)
      have hsz2 : H.size = z + (z_np G - 32) := by have := hR.size (Nat.le_trans hz hS.1); omega
      have e1c : z_nc (z_new G (a, n.toNatClampNeg) n.toNatClampNeg) = z_nc G + 1 := rfl
      have e1s : z_ns (z_new G (a, n.toNatClampNeg) n.toNatClampNeg) = z_ns G + n.toNatClampNeg := rfl
      have h34 := z_ta_k _ ha
      have hov : (Cond.arrayOver (.object (z_ac a))).before args s = true := by rcases h34 with h | h <;> rw [show a = _ from h] <;> first | exact hAO.1.use | exact hAO.2.use
      refine W.anew hx hb hown (hts _ (z_ta_l _ ha)) hov rfl hd rfl hc.2.1 (by have := hc.2.2; omega) (by omega) (by omega) (fun cA kA comp f1 f2 f3 f4 => ?_)
      have hcA : ka a = cA := by
        rcases h34 with h | h
        · rw [show a = 3 from h] at f1 ⊢
          obtain ⟨kA2, comp2, -, -, -, g4⟩ := (hK.2 2 _ rfl).2
          exact Option.some.inj (g4.symm.trans f1)
        · rw [show a = 4 from h] at f1 ⊢
          obtain ⟨kA2, comp2, -, -, -, g4⟩ := (hK.2 3 _ rfl).2
          exact Option.some.inj (g4.symm.trans f1)
      generalize hH1 : H.push ({ cls := cA, slots := Array.replicate n.toNatClampNeg .null, vm := .none } : Cell) = H1
      have z1 : H1.size = H.size + 1 := by rw [← hH1, Array.size_push]
      have e1 : H1[H.size]? = some (arrV cA n.toNatClampNeg (fun _ => .null)) := by rw [← hH1, Array.getElem?_push_size, ← arrV_new]
      have hkp : ∀ q, q < H.size → H1[q]? = H[q]? := fun q hq => by rw [← hH1, Array.getElem?_push, if_neg (Nat.ne_of_lt hq)]
      refine W.eq (g2 := F0 m (pc + 3) arr (.ref (ad (z_np G)) :: r.map (z_cv ad))) (by rw [had _ hR.2.1, hsz2]) (kk H1 locs arr (cells + 1) (slots + n.toNatClampNeg) hl (hR.push hsz2 hkp ?_) (z_S_push hS z1 hkp) (by omega) (by omega))
      have hk1 := z_kd_new G (a, n.toNatClampNeg) n.toNatClampNeg
      have h3 : 3 ≤ (z_kd (z_new G (a, n.toNatClampNeg) n.toNatClampNeg) (z_np G)).1 := by rw [hk1]; show 3 ≤ a; rcases h34 with h | h <;> (have h9 : a = _ := h; omega)
      rw [z_cell_ref h3, hk1, z_rf_new, hcA, ← hsz2]
      exact e1
    · cases hs
  · cases hs
theorem zn_56 (C : z_Ctx z ad ka D mi p R s m args meth c) (hl : z_loc ad arr ls) (hR : z_Rel z ad ka D G M H) (hE : z_Ext z ad s s.heap G M) (hS : va_S (z_A z) s.heap H locs) (hs : z_step 56 a b ls st G M = some (.inl (L, ls', st', G1, M1))) (hd : decode (zz_cd mi) pc = .ok (.tableswitch (((z_sw a).2.2 : Int) - (pc : Int)) ((z_sw a).1 : Int) (((z_sw a).1 : Int) + ((z_sw a).2.1.length : Int) - 1) ((z_sw a).2.1.map (fun (t : Nat) => (t : Int) - (pc : Int))).toArray, cp)) (kk : ∀ t, L = some t → z_go1 p l e R s m args below meth c Q z ad ka D G cells slots t ls' st' G1 M1) : W p l e R s m args below meth c H locs cells slots Q (F0 m pc arr (st.map (z_cv ad))) := by
  obtain ⟨hx, hb, hml, hrt, hown, hts, hlk, hfr, hlo, hK, hz, hnm, had, hon⟩ := C
  simp only [z_step] at hs
  split at hs
  · rename_i x r
    cases hs
    have k9 := kk _ rfl _ _ _ _ _ hl hR hS rfl rfl
    unfold z_swt at k9
    by_cases h1 : x.toInt < ((z_sw a).1 : Int)
    · rw [if_pos h1] at k9
      exact lv_tableOut hx hb hd (Or.inl h1) (by omega) k9
    · rw [if_neg h1] at k9
      by_cases h2 : ((z_sw a).1 : Int) + ((z_sw a).2.1.length : Int) - 1 < x.toInt
      · rw [List.getD_eq_getElem?_getD, List.getElem?_eq_none (by omega), Option.getD_none] at k9
        exact lv_tableOut hx hb hd (Or.inr h2) (by omega) k9
      · have hlt : (x.toInt - ((z_sw a).1 : Int)).toNat < (z_sw a).2.1.length := by omega
        rw [List.getD_eq_getElem?_getD, List.getElem?_eq_getElem hlt, Option.getD_some] at k9
        refine lv_tableIn (off := (((z_sw a).2.1[(x.toInt - ((z_sw a).1 : Int)).toNat] : Nat) : Int) - (pc : Int)) hx hb hd h1 h2 ?_ (by omega) k9
        rw [List.getElem?_toArray, List.getElem?_map, List.getElem?_eq_getElem hlt]
        rfl
  · cases hs
end
