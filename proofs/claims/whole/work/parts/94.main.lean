/-! ===== the small machine is sound ===== -/
theorem z_hh_plain : ∀ q ∈ z_tm, q.2.2.2 ≠ 67 → z_hh q.2.2.1 = [] := by decide +kernel
theorem z_tm_lt : ∀ q ∈ z_tm, q.2.2.1 < 250 := by decide +kernel
theorem z_tm_pl : ∀ q ∈ z_tm, plainFor (z_y q.2.2.1) = true := by decide +kernel
theorem z_tm_pn : ∀ q ∈ z_tm, q.2.2.2 ≠ 63 → plainName (z_y q.2.2.1).cls = true := by decide +kernel
theorem z_opC {mi o f n cp pc : Nat} (ho : o = 63 ∨ o = 64 ∨ o = 65 ∨ o = 66 ∨ o = 67) (hB : z_opB mi (o, f, n, cp, pc) = true) : (z_ow mi, cp, f, o) ∈ z_tm ∧ n ≤ z_mxl f ∧ z_end o = false ∧ (z_ins (o, f, n, cp, pc)).2 = 3 := by
  rcases ho with rfl | rfl | rfl | rfl | rfl
  · have hT := of_decide_eq_true (z_opB_spec hB (by decide) (by decide)).2
    exact ⟨hT.1, hT.2.2.2.2, rfl, rfl⟩
  · have hT := of_decide_eq_true (z_opB_spec hB (by decide) (by decide)).2
    exact ⟨hT.1, hT.2.2.2.2.1, rfl, rfl⟩
  · have hT := of_decide_eq_true (z_opB_spec hB (by decide) (by decide)).2
    exact ⟨hT.1, hT.2.2.2.2.1, rfl, rfl⟩
  · have hT := of_decide_eq_true (z_opB_spec hB (by decide) (by decide)).2
    exact ⟨hT.1, hT.2.2.2.2.1, rfl, rfl⟩
  · have hT := of_decide_eq_true (z_opB_spec hB (by decide) (by decide)).2
    exact ⟨hT.1, hT.2.2.2.2, rfl, rfl⟩
set_option maxHeartbeats 4000000 in
theorem z_snd {l : Launch} {Iv : State → Heap → Prop} {z : Nat} {ad : Nat → Nat} {ka : Nat → ClassId} {D : va_G} (hI : z_IvOK Iv z) (hnst : ∀ s : State, Iv s s.heap → ∀ q ∈ z_tm66, va_Nw (.methodLinkNest (zz_on q.1) q.2.1 (z_y q.2.2.1) "ChiefCircles") s) (hSp : z_SpOK l Iv z ad ka D) (hHd : z_HdOK l Iv z ad ka D) (hTx : z_TxOK l Iv z ad ka D) (hval : ∀ f L, f < 250 → z_seqB f L (z_blk f L) = true) :
    ∀ (n mi : Nat) (ops : List zO) (ls st : List Value) (G : zG) (M : zM) (o : zQ) (G1 : zG) (M1 : zM), z_run n mi ops ls st G M = some (o, G1, M1) → (z_hh mi ≠ [] → ∃ r, o = .inl r) → mi < 250 →
    ∀ (p : Program) (e : Env) (R : Room) (s : State) (m : MethodId) (args : Array Value) (below : List Frame) (meth : Method) (c : Code) (H : Heap) (locs : List Loc) (cells slots : Nat) (Q : State → Prop) (arr : Array Slot) (pc CT ST : Nat), z_Ctx z ad ka D mi p R s m args meth c → Iv s s.heap → z_seqB mi pc ops = true → ls.length = z_mxl mi → z_loc ad arr ls → z_Rel z ad ka D G M H → z_Ext z ad s s.heap G M → va_S (z_A z) s.heap H locs → s.heap.size + cells ≤ z + z_nc G → CT + z_nc G = cells + z_nc G1 → ST + z_ns G = slots + z_ns G1 → CT ≤ R.cells → ST ≤ R.slots → c.exceptionTable.toList = tableOf (z_hh mi) → z_Fin p l e R s m args below meth c Q z ad ka D mi CT ST o G1 M1 → W p l e R s m args below meth c H locs cells slots Q (F0 m pc arr (st.map (z_cv ad))) := by
  intro n
  induction n with
  | zero =>
    intro mi ops ls st G M o G1 M1 h
    simp [z_run] at h
  | succ n ih =>
    intro mi ops ls st G M o G1 M1 h hho hmi p e R s m args below meth c H locs cells slots Q arr pc CT ST C hi hseq hll hl hR hE hS hcnt hCT hST hcR hsR htab hfin
    have had := C.2.2.2.2.2.2.2.2.2.2.2.2.1
    cases ops with
    | nil => simp [z_run] at h
    | cons op ops =>
      obtain ⟨o1, a, b, cp, pc1⟩ := op
      rw [z_seqB] at hseq
      simp only [Bool.and_eq_true, decide_eq_true_eq, Bool.or_eq_true] at hseq
      obtain ⟨rfl, hB, hnx⟩ := hseq
      have hn32 := hR.2.1
      rw [z_run] at h
      dsimp only at h hnx
      generalize hs : z_step o1 a b ls st G M = r at h
      rcases r with _ | ⟨L, ls2, st2, G2, M2⟩ | d | ⟨f, av, rest⟩
      · cases h
      · dsimp only at h
        have k1 := z_stepK hn32 hs
        obtain ⟨ops2, h2, hN, hT⟩ : ∃ ops2, z_run n mi ops2 ls2 st2 G2 M2 = some (o, G1, M1) ∧ (L = none → ops2 = ops) ∧ (∀ t, L = some t → ops2 = z_blk mi t) := by
          cases L with
          | none =>
            refine ⟨ops, h, fun _ => rfl, ?_⟩
            intro t' e0
            cases e0
          | some t =>
            refine ⟨z_blk mi t, h, ?_, ?_⟩
            · intro e0
              cases e0
            · intro t' e0
              cases e0
              rfl
        have k2 := z_runK _ _ _ _ _ _ _ _ (Nat.le_trans hn32 k1.2.1) h2
        dsimp only at k2
        have c1 := k1.2.2.1
        have c2 := k2.2.2.1
        have s1 := k1.2.2.2
        have s2 := k2.2.2.2
        have hkont : ∀ pc2, z_seqB mi pc2 ops2 = true → z_go1 p l e R s m args below meth c Q z ad ka D G cells slots pc2 ls2 st2 G2 M2 := by
          intro pc2 hq H1 locs1 arr1 cells1 slots1 hl1 hR1 hS1 ec es
          exact ih mi ops2 ls2 st2 G2 M2 o G1 M1 h2 hho hmi p e R s m args below meth c H1 locs1 cells1 slots1 Q arr1 pc2 CT ST C hi hq (by rw [z_stepLen hs]; exact hll) hl1 hR1 (hE.kp k1) hS1 (by omega) (by omega) (by omega) hcR hsR htab hfin
        have kN : L = none → z_go1 p l e R s m args below meth c Q z ad ka D G cells slots (pc1 + (z_ins (o1, a, b, cp, pc1)).2) ls2 st2 G2 M2 := by
          intro e0
          have e9 := hN e0
          subst e0
          rcases hnx with hx | hx
          · rw [z_stepE hs] at hx
            cases hx
          · exact hkont _ (by rw [e9]; exact hx)
        have kT : ∀ t, L = some t → z_go1 p l e R s m args below meth c Q z ad ka D G cells slots t ls2 st2 G2 M2 := by
          intro t e0
          exact hkont t (by rw [hT t e0]; exact hval mi t hmi)
        by_cases hsp : z_sp o1
        · exact hSp p e R s m args below meth c H locs cells slots Q mi o1 a b cp pc1 ls st G M L ls2 st2 G2 M2 arr hsp C hi hl hR hE hS hll ⟨by omega, by omega⟩ hcnt ⟨by omega, by omega⟩ hB hs kN
        · exact z_next hsp C hl hR hE hS hll ⟨by omega, by omega⟩ hcnt ⟨by omega, by omega⟩ hB hs kN kT
      · cases h
        rcases z_stepDn hs with ⟨rfl, rfl, hd⟩ | ⟨rfl, x, rfl, hd⟩ | ⟨rfl, x, rfl, hd⟩ | ⟨rfl, x, hx01, rfl, hd⟩ | ⟨rfl, rfl, hd⟩
        · cases hd
          obtain rfl : CT = cells := by omega
          obtain rfl : ST = slots := by omega
          have hq := z_opB_spec hB (by decide) (by decide)
          exact hfin H locs arr pc1 _ hq.1 (Or.inl ⟨rfl, rfl, of_decide_eq_true hq.2⟩) hR hS
        · cases hd
          obtain rfl : CT = cells := by omega
          obtain rfl : ST = slots := by omega
          have hq := z_opB_spec hB (by decide) (by decide)
          exact hfin H locs arr pc1 _ hq.1 (Or.inr (Or.inl ⟨x, rfl, rfl, Or.inl (of_decide_eq_true hq.2)⟩)) hR hS
        · cases hd
          obtain rfl : CT = cells := by omega
          obtain rfl : ST = slots := by omega
          have hq := z_opB_spec hB (by decide) (by decide)
          exact hfin H locs arr pc1 _ hq.1 (Or.inr (Or.inr ⟨x, rfl, rfl, of_decide_eq_true hq.2⟩)) hR hS
        · cases hd
          obtain rfl : CT = cells := by omega
          obtain rfl : ST = slots := by omega
          have hq := z_opB_spec hB (by decide) (by decide)
          exact hfin H locs arr pc1 _ hq.1 (Or.inr (Or.inl ⟨x, rfl, rfl, Or.inr ⟨of_decide_eq_true hq.2, hx01⟩⟩)) hR hS
        · cases hd
          have e1 : z_nc (z_thr G) = z_nc G + 1 := rfl
          have e2 : z_ns (z_thr G) = z_ns G + 6 := rfl
          exact hfin.1 H locs arr pc1 cells slots b cp G (hl.1.trans hll) hB rfl hR hS (by omega) (by omega)
      · dsimp only at h
        obtain ⟨rfl, hcg, ho5⟩ := z_stepC hs
        generalize hc : z_run n f (z_blk f 0) (z_ent f av) [] G M = rc at h
        rcases rc with _ | ⟨q, G2, M2⟩
        · cases h
        have k1 := z_runK _ _ _ _ _ _ _ _ hn32 hc
        dsimp only at k1
        have hn2 := Nat.le_trans hn32 k1.2.1
        have c1 := k1.2.2.1
        have s1 := k1.2.2.2
        obtain ⟨hst, hlen, hrcv, hcat8, hcat⟩ := z_cg_spec hcg
        obtain ⟨htm, hnm, hend, hlen3⟩ := z_opC ho5 hB
        have hav : av.length ≤ z_mxl f := by omega
        have hcv : z_cat av ≤ av.length := by omega
        have hpl := z_tm_pl _ htm
        have hon := z_own f (z_tm_lt _ htm)
        have hnx2 : z_seqB mi (pc1 + 3) ops = true := by
          rcases hnx with hx | hx
          · rw [hend] at hx
            cases hx
          · rw [hlen3] at hx
            exact hx
        rcases q with r | E
        · have k2 := z_runK _ _ _ _ _ _ _ _ hn2 h
          dsimp only at k2
          have c2 := k2.2.2.1
          have s2 := k2.2.2.2
          have hbody : z_Body l Iv z ad ka D f av G M r G2 M2 := by
            intro p2 e2 R2 s3 m2 args2 below2 meth2 c3 Q2 arr2 CT2 ST2 C2 hi2 hl2 hR2 hE2 hsz2 g1 g2 g3 g4 ht2 hf2
            exact ih f _ (z_ent f av) [] G M (.inl r) G2 M2 hc (fun _ => ⟨r, rfl⟩) (z_tm_lt _ htm) p2 e2 R2 s3 m2 args2 below2 meth2 c3 s3.heap [] 0 0 Q2 arr2 0 CT2 ST2 C2 hi2 (hval f 0 (z_tm_lt _ htm)) (z_ent_len hav) hl2 hR2 hE2 va_S.rf (by omega) (by omega) (by omega) g3 g4 ht2 hf2
          have kont : ∀ (H1 : Heap) (locs1 : List Loc), z_Rel z ad ka D G2 M2 H1 → va_S (z_A z) s.heap H1 locs1 → W p l e R s m args below meth c H1 locs1 (cells + (z_nc G2 - z_nc G)) (slots + (z_ns G2 - z_ns G)) Q (F0 m (pc1 + 3) arr ((r.toList ++ rest).map (z_cv ad))) := by
            intro H1 locs1 hR1 hS1
            exact ih mi ops ls (r.toList ++ rest) G2 M2 o G1 M1 h hho hmi p e R s m args below meth c H1 locs1 _ _ Q arr (pc1 + 3) CT ST C hi hnx2 hll hl hR1 (hE.kp k1) hS1 (by omega) (by omega) (by omega) hcR hsR htab hfin
          have hrm : cells + (z_nc G2 - z_nc G) ≤ R.cells ∧ slots + (z_ns G2 - z_ns G) ≤ R.slots := ⟨by omega, by omega⟩
          rcases ho5 with rfl | rfl | rfl | rfl | rfl
          · exact z_c63 hI hi C hl hll hR hE hS hcnt hrm hB hcg (z_toMet hpl hon had hav hcv c1 s1 (z_hh_plain _ htm (show (63 : Nat) ≠ 67 by decide)) hbody) kont
          · exact z_c64 hI hi C hl hll hR hE hS hcnt hrm hB hcg (z_toMet hpl hon had hav hcv c1 s1 (z_hh_plain _ htm (show (64 : Nat) ≠ 67 by decide)) hbody) kont
          · exact z_c65 hI hi C hl hll hR hE hS hcnt hrm hB hcg (z_toMet hpl hon had hav hcv c1 s1 (z_hh_plain _ htm (show (65 : Nat) ≠ 67 by decide)) hbody) kont
          · exact z_c66 hI hi (hnst s hi) C hl hll hR hE hS hcnt hrm hB hcg (z_toMet hpl hon had hav hcv c1 s1 (z_hh_plain _ htm (show (66 : Nat) ≠ 67 by decide)) hbody) kont
          · exact z_c67 hI hi C hl hll hR hE hS hcnt hrm hB hcg (z_toMetW (z_tm_pn _ htm (show (67 : Nat) ≠ 63 by decide)) hon had hav hcv c1 s1 hbody) kont
        · dsimp only at h
          by_cases h64 : o1 = 64
          · subst h64
            rw [if_pos rfl] at h
            have hhf : z_hh f = [] := z_hh_plain _ htm (show (64 : Nat) ≠ 67 by decide)
            have hbody : z_BodyX l Iv z ad ka D f av G M E G2 M2 := by
              intro p2 e2 R2 s3 m2 args2 below2 meth2 c3 Q2 arr2 CT2 ST2 C2 hi2 hl2 hR2 hE2 hsz2 g1 g2 g3 g4 ht2 hf2
              exact ih f _ (z_ent f av) [] G M (.inr E) G2 M2 hc (fun hx => absurd hhf hx) (z_tm_lt _ htm) p2 e2 R2 s3 m2 args2 below2 meth2 c3 s3.heap [] 0 0 Q2 arr2 0 CT2 ST2 C2 hi2 (hval f 0 (z_tm_lt _ htm)) (z_ent_len hav) hl2 hR2 hE2 va_S.rf (by omega) (by omega) (by omega) g3 g4 ht2 hf2
            have hMx := hTx f av G M E G2 M2 (z_tm_pn _ htm (show (64 : Nat) ≠ 63 by decide)) hon hav hcv c1 s1 hhf hbody
            generalize hh0 : z_hd mi E = hh at h
            rcases hh with _ | ⟨t, k⟩
            · dsimp only at h
              cases h
              refine z_x64 hI hi C hl hll hR hE hS hcnt ⟨by omega, by omega⟩ hB hcg hMx (fun q ce H1 locs1 hR1 hS1 g1 g2 g3 => ?_)
              obtain rfl : CT = cells + (z_nc G1 - z_nc G) := by omega
              obtain rfl : ST = slots + (z_ns G1 - z_ns G) := by omega
              exact hfin.2 H1 locs1 arr pc1 _ q ce hR1 hS1 g1 g2 g3
            · dsimp only at h
              generalize hp0 : z_put ls k .null = pp at h
              rcases pp with _ | ls2
              · cases h
              · dsimp only at h
                have k2 := z_runK _ _ _ _ _ _ _ _ hn2 h
                dsimp only at k2
                have c2 := k2.2.2.1
                have s2 := k2.2.2.2
                refine z_x64 hI hi C hl hll hR hE hS hcnt ⟨by omega, by omega⟩ hB hcg hMx (fun q ce H1 locs1 hR1 hS1 g1 g2 g3 => ?_)
                refine hHd p e R s m args below meth c H1 locs1 _ _ Q mi f b cp pc1 E t k ls ls2 _ arr q ce hh0 hp0 C hi htab hB hl hll g1 g2 g3 (fun arr2 hl2 => ?_)
                exact ih mi _ ls2 [] G2 M2 o G1 M1 h hho hmi p e R s m args below meth c H1 locs1 _ _ Q arr2 t CT ST C hi (hval mi t hmi) (by rw [(z_put_spec hp0).2.1, List.length_set]; exact hll) hl2 hR1 (hE.kp k1) hS1 (by omega) (by omega) (by omega) hcR hsR htab hfin
          · rw [if_neg h64] at h
            cases h
