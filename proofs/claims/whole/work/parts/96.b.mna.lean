/-! ===== an array of arrays of ints is made ===== -/
section
variable {l : Launch} {z : Nat} {ad av sa : Nat → Nat} {ka : Nat → ClassId} {D : va_G}
variable {p : Program} {e : Env} {R : Room} {s : State} {m : MethodId} {args : Array Value} {below : List Frame} {meth : Method} {c : Code} {H : Heap} {locs : List Loc} {cells slots : Nat} {Q : State → Prop} {mi a b cp pc : Nat} {ls st : List Value} {G : zG} {M : zM} {L : Option Nat} {ls' st' : List Value} {G1 : zG} {M1 : zM} {arr : Array Slot}
theorem zs_77 (hi : z_Iv z ad av sa s s.heap) (C : z_Ctx z ad ka D mi p R s m args meth c) (hl : z_loc ad arr ls) (hR : z_Rel z ad ka D G M H) (hS : va_S (z_A z) s.heap H locs) (hcnt : s.heap.size + cells ≤ z + z_nc G) (hrm : cells + z_nc G1 ≤ R.cells + z_nc G ∧ slots + z_ns G1 ≤ R.slots + z_ns G) (hB : z_opB mi (77, a, b, cp, pc) = true) (hs : z_step 77 a b ls st G M = some (.inl (L, ls', st', G1, M1))) (kN : L = none → z_go1 p l e R s m args below meth c Q z ad ka D G cells slots (pc + (z_ins (77, a, b, cp, pc)).2) ls' st' G1 M1) : W p l e R s m args below meth c H locs cells slots Q (F0 m pc arr (st.map (z_cv ad))) := by
  obtain ⟨hd, ht⟩ := z_opD (by decide) (by decide) (by decide) hB
  obtain ⟨hx, hb, hml, hrt, hown, hts, hlk, hfr, hlo, hK, hz, hnm, had, hon⟩ := C
  simp only [z_step] at hs
  split at hs
  · rename_i k n r
    split at hs
    · rename_i hc
      cases hs
      have kk := kN rfl
      refine z_size (fun hsz => ?_)
      have hsz2 : H.size = z + (z_np G - 32) := by have := hR.size (Nat.le_trans hz hS.1); omega
      obtain ⟨N, hN⟩ : ∃ N, n.toNatClampNeg = N := ⟨_, rfl⟩
      obtain ⟨K, hKk⟩ : ∃ K, k.toNatClampNeg = K := ⟨_, rfl⟩
      rw [hN, hKk] at kk hrm hc
      have e1c : z_nc (z_new2 G N K) = z_nc G + (1 + N) := rfl
      have e1s : z_ns (z_new2 G N K) = z_ns G + (N + N * K) := rfl
      rw [e1c, e1s] at hrm
      intro T hT Xs
      obtain ⟨vm₁, cA, comp, -, fA, fC, -, -, X', step⟩ := Xs.multianewarray2F hx hown (hts _ (z_tw_ok _ (of_decide_eq_true ht))) (z_AOA.use hi.1.2.2.2.2.1.2.2) (hts _ z_w_ia) (g := F0 m pc arr (.int k :: .int n :: r.map (z_cv ad))) rfl (by rw [hb]; exact hd) rfl hc.2.1.1 hc.2.2.1 (by rw [hN]; have := hc.2.1.2; omega) (by rw [hKk]; show K * 4 ≤ 536870912; have := hc.2.2.2; omega) (by rw [hKk]; have := hc.2.2.2; omega) rfl rfl (by rw [hN]; omega) (by rw [hN, hKk]; omega)
      rw [hN, hKk] at X' step
      have k1 : ka 1 = comp := Option.some.inj ((hK.2 0 _ rfl).2.symm.trans fC)
      have k5 : ka 5 = cA := Option.some.inj ((hK.2 4 _ rfl).2.symm.trans fA)
      generalize hF : Jvm.Free.Multi.fill (T.setVm vm₁) cA comp N K (defaultValue .int) N = F at X' step
      have hTh : (T.setVm vm₁).heap = H := hT
      obtain ⟨f1, f2, -, -⟩ := Jvm.Free.Multi.fill_facts (T.setVm vm₁) cA comp N K (defaultValue .int) N
      rw [hF, hTh] at f1 f2
      have hold : ∀ x : Nat, x < H.size → F.heap[x]? = H[x]? := fun x hx => by
        have := Jvm.Free.Multi.fill_old (T.setVm vm₁) cA comp N K (defaultValue .int) (a := x) (by rw [hTh]; exact hx) N
        rw [hF, hTh] at this
        exact this
      have hrow : ∀ j : Nat, j < N → F.heap[H.size + 1 + j]? = some (Jvm.Free.Multi.innerC comp K (defaultValue .int)) := fun j hj => by
        have := Jvm.Free.Multi.fill_inner (T.setVm vm₁) cA comp N K (defaultValue .int) N j hj
        rw [hF, hTh] at this
        exact this
      rw [zr_outer] at f2
      have hR1 : z_Rel z ad ka D (z_new2 G N K) (z_new2M G N M) F.heap := by
        obtain ⟨r1, r2, r3, r4⟩ := id hR
        have hP0 : va_P D z_cl (z_ws z ad ka G M) F.heap := r1.kept (fun k9 x hx => hold x.1 ((r1 k9 x hx).lt))
        have e9 : z_np (z_new2 G N K) = z_np G + (1 + N) := rfl
        have kdE : ∀ q, z_kd (z_new2 G N K) q = if q = z_np G then (5, N) else if z_np G < q ∧ q ≤ z_np G + N then (1, K) else z_kd G q := fun _ => rfl
        have rfE : ∀ q, z_rf (z_new2 G N K) q = if q = z_np G then (fun j => if j < N then z_np G + 1 + j else 0) else if z_np G < q ∧ q ≤ z_np G + N then (fun _ => 0) else z_rf G q := fun _ => rfl
        have lgE : ∀ q, z_lg (z_new2 G N K) q = if z_np G ≤ q ∧ q ≤ z_np G + N then (fun _ => 0) else z_lg G q := fun _ => rfl
        have mE : ∀ q, z_new2M G N M q = if z_np G ≤ q ∧ q ≤ z_np G + N then (fun _ => 0) else M q := fun _ => rfl
        refine ⟨fun k9 q hq => ?_, by rw [e9]; omega, by rw [e9, e1c]; omega, fun q hq => ?_⟩
        · obtain ⟨l9, rfl⟩ := z_ws_at hq
          rw [e9] at l9
          by_cases c1 : 32 + k9 < z_np G
          · have hc9 : z_cell ad ka (z_new2 G N K) (z_new2M G N M) (32 + k9) = z_cell ad ka G M (32 + k9) := by
              have u1 : z_kd (z_new2 G N K) (32 + k9) = z_kd G (32 + k9) := by rw [kdE, if_neg (by omega), if_neg (by omega)]
              have u2 : z_rf (z_new2 G N K) (32 + k9) = z_rf G (32 + k9) := by rw [rfE, if_neg (by omega), if_neg (by omega)]
              have u3 : z_lg (z_new2 G N K) (32 + k9) = z_lg G (32 + k9) := by rw [lgE, if_neg (by omega)]
              have u4 : z_new2M G N M (32 + k9) = M (32 + k9) := by rw [mE, if_neg (by omega)]
              unfold z_cell
              rw [u1, u2, u3, u4]
            have g := z_ws_get (z := z) (ad := ad) (ka := ka) (G := G) (M := M) (q := 32 + k9) (by omega) c1
            rw [show 32 + k9 - 32 = k9 by omega] at g
            rw [hc9]
            exact hP0 k9 _ g
          · by_cases c2 : 32 + k9 = z_np G
            · have hk1 : z_kd (z_new2 G N K) (32 + k9) = (5, N) := by rw [kdE, if_pos c2]
              rw [z_cell_ref (by rw [hk1]; omega), hk1, rfE, if_pos c2, k5, show z + k9 = H.size by omega]
              refine f2.trans (congrArg some ?_)
              dsimp only
              rw [vp_cell_q]
              refine congrArg (arrV cA N) (funext fun j => ?_)
              show va_rf (if j < N then some (H.size + 1 + j) else none) = va_rf (z_ro ad (if j < N then z_np G + 1 + j else 0))
              unfold z_ro
              by_cases hj : j < N
              · rw [if_pos hj, if_pos hj, if_neg (by omega), had _ (by omega), show z + (z_np G + 1 + j - 32) = H.size + 1 + j by omega]
              · rw [if_neg hj, if_neg hj, if_pos rfl]
            · have hk1 : z_kd (z_new2 G N K) (32 + k9) = (1, K) := by rw [kdE, if_neg c2, if_pos (by omega)]
              rw [z_cell_int (by rw [hk1]), hk1, mE, if_pos (by omega), k1, show z + k9 = H.size + 1 + (k9 - (H.size - z) - 1) by omega]
              exact (hrow (k9 - (H.size - z) - 1) (by omega)).trans (congrArg some (by first | rfl | exact arrV_new _ _ _ | (unfold Jvm.Free.Multi.innerC; rw [← arrI_new]; rfl)))
        · rw [kdE, if_neg (by rw [e9] at hq; omega), if_neg (by rw [e9] at hq; omega)]
          exact r4 q (by rw [e9] at hq; omega)
      have hS1 : va_S (z_A z) s.heap F.heap locs := ⟨by rw [f1]; have := hS.1; omega, fun q hq hn => by rw [hold q (Nat.lt_of_lt_of_le hq hS.1)]; exact hS.2.1 q hq hn, hS.2.2⟩
      obtain ⟨t, a1, b1⟩ := kk F.heap locs arr (cells + 1 + N) (slots + N + N * K) hl hR1 hS1 (by rw [e1c]; omega) (by rw [e1s]; omega) F rfl X'
      refine ⟨t, step t ?_, b1⟩
      have ea : ad (z_np G) = H.size := by rw [had _ hR.2.1, hsz2]
      have e7 : (z_ins (77, a, b, cp, pc)).2 = 4 := rfl
      rw [e7] at a1
      rw [hT, ← ea]
      exact a1
    · cases hs
  · cases hs
end
