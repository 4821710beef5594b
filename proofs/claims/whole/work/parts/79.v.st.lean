/-! ===== the law's cases: feed, undo, text ===== -/
section
variable {t len : Nat} {sc : Nat → Int32} {G : zG} {M : zM} {w5 w6 : Value}
theorem S_feed (hJ : z_J t len sc G M) (hi : 6 * t + 6 ≤ len) (hl : len ≤ 3072) : z_Sx 176 t len sc G M w5 w6 := by
  obtain ⟨nb, pb, n, J, B, tp, pn, c, hG, h1, hB, hm⟩ := hJ
  obtain ⟨hC, hM, hQ, hSt, hcn, k472, k1⟩ := id hG
  obtain ⟨hR, hF, ⟨t1, t2, t3, t4⟩, hrf, hfp, ⟨p1, p2, p3, p4, p5⟩, hP, hN, hK⟩ := id hm
  have hn : n ≤ 8 := hF.1.1.2
  have lo := HC_lo hC
  have s1 : (z_kd G 1).1 = 1 := by rw [k1]
  have s2 : (z_kd G 1).2 = len := by rw [k1]
  by_cases hf : tp + 20 ≤ 200
  · obtain ⟨M1, e1, a1, a2, a3⟩ := k_feed1 hC M t1 hf (M 1 (6 * t + 1)) (M 1 (6 * t + 2)) (M 1 (6 * t + 3)) (M 1 (6 * t + 4)) (M 1 (6 * t + 5))
    have e2 := m_feed1 hM M1 (t := tp) (by rw [a1 455 (by omega) (by omega)]; exact t2) hf (M 1 (6 * t + 1)) (M 1 (6 * t + 2)) (M 1 (6 * t + 3)) (M 1 (6 * t + 4)) (M 1 (6 * t + 5))
    obtain ⟨Lf, hLf⟩ : ∃ Lf, Lf = f_fd (M 1 (6 * t + 1)) (M 1 (6 * t + 2)) (M 1 (6 * t + 3)) (M 1 (6 * t + 4)) (M 1 (6 * t + 5)) := ⟨_, rfl⟩
    have L8 : ∀ k, ∃ u, u < 256 ∧ Lf k = nI u := fun k => by rw [hLf]; exact by_256 _ _
    rw [← hLf] at a3 e2
    clear hLf
    obtain ⟨M2, hM2⟩ : ∃ M2, M2 = z_fm (th0 M1) tp Lf 20 := ⟨_, rfl⟩
    rw [← hM2] at e2
    have o : ∀ q, q ≠ 32 → q ≠ 33 → q ≠ 455 → q ≠ 457 → M2 q = M q := fun q a b d e => by
      rw [hM2]; unfold z_fm; rw [z_sA_n _ _ _ _ d, z_sA_n _ _ _ _ e, th0_o M1 d, a1 q a b]
    have c32 : M2 32 = z_u (M 32) 1 (nI (tp + 20)) := by rw [hM2]; unfold z_fm; rw [z_sA_n _ _ _ _ (by omega), z_sA_n _ _ _ _ (by omega), th0_o M1 (by omega), a2]
    have c33 : M2 33 = z_bw (M 33) tp 20 Lf := by rw [hM2]; unfold z_fm; rw [z_sA_n _ _ _ _ (by omega), z_sA_n _ _ _ _ (by omega), th0_o M1 (by omega), a3]
    have c457 : M2 457 = z_bw (M 457) tp 20 Lf := by rw [hM2]; unfold z_fm; rw [z_sA_n _ _ _ _ (by omega), z_sA_s, th0_o M1 (by omega), a1 457 (by omega) (by omega)]
    have c455 : ∀ f, f ≠ 0 → f ≠ 2 → M2 455 f = M 455 f := fun f a b => by rw [hM2]; unfold z_fm; rw [z_sA_s, z_u_n _ _ _ _ b, th0_fn M1 a, a1 455 (by omega) (by omega)]
    have c2 : M2 455 2 = nI (tp + 20) := by rw [hM2]; unfold z_fm; rw [z_sA_s, z_u_s]
    refine ⟨G, M2, w5, w6, law_feed (hx1 := rfl) (hx2 := rfl) (hx3 := rfl) (hx4 := rfl) (hx5 := rfl) s1 s2 hi hl hC.1 e1 s1 s2 (a1 1 (by omega) (by omega)) hM.1 e2, nb, pb, n, J, B, tp + 20, pn, c, JG_k hG (Gk_refl _) ⟨Nat.le_add_right _ 1, Nat.le_add_right _ 6⟩ (fun q hq => o q (by omega) (by omega) (by omega) (by omega)), (o 1 (by omega) (by omega) (by omega) (by omega)).trans h1, b_up hB, z_R_V (by rw [o 458 (by omega) (by omega) (by omega) (by omega)]; exact hR) hn (fun k hk => o _ (by omega) (by omega) (by omega) (by omega)), by rw [o 458 (by omega) (by omega) (by omega) (by omega)]; exact hF, ⟨by rw [c32, z_u_s], c2, by omega, fun k => ?_⟩, fun k hk => ?_, ?_, ⟨by rw [c32, z_u_n _ _ _ _ (by omega)]; exact p1, p2, by rw [c32, z_u_n _ _ _ _ (by omega)]; exact p3, p4, by rw [c455 14 (by omega) (by omega)]; exact p5⟩, fun j hj => ?_, fun i hi => ?_, fun k hk i hi => ?_⟩
    · rw [c33, c457]
      by_cases hk2 : tp ≤ k ∧ k < tp + 20
      · rw [z_bw_at _ _ _ _ _ hk2.1 hk2.2, z_bw_at _ _ _ _ _ hk2.1 hk2.2]; exact ⟨fun _ => L8 _, rfl⟩
      · rw [z_bw_out _ _ _ _ _ (by omega), z_bw_out _ _ _ _ _ (by omega)]; exact ⟨fun hk => (t4 k).1 (by omega), (t4 k).2⟩
    · rw [o 34 (by omega) (by omega) (by omega) (by omega), o 456 (by omega) (by omega) (by omega) (by omega)]; exact hrf k hk
    · rw [c32, z_u_n _ _ _ _ (by omega), c455 5 (by omega) (by omega)]; exact hfp
    · obtain ⟨n', J', r, f⟩ := hP j hj
      have hn' : n' ≤ 8 := f.1.1.2
      have bk := HC_blo hC (Nat.mod_lt (pn + 8 - c + j) (by omega : 0 < 8))
      rw [o (463 + j) (by omega) (by omega) (by omega) (by omega)]
      exact ⟨n', J', z_R_V r hn' (fun k hk => o _ (by omega) (by omega) (by omega) (by omega)), f⟩
    · rw [o _ (by omega) (by omega) (by omega) (by omega)]; exact hN i hi
    · have bk := HC_blo hC hk
      rw [o _ (by omega) (by omega) (by omega) (by omega)]; exact hK k hk i hi
  · have e1 := k_feed0 hC M t1 t3 (by omega) (M 1 (6 * t + 1)) (M 1 (6 * t + 2)) (M 1 (6 * t + 3)) (M 1 (6 * t + 4)) (M 1 (6 * t + 5))
    have e2 := m_feed0 hM M t2 t3 (by omega) (M 1 (6 * t + 1)) (M 1 (6 * t + 2)) (M 1 (6 * t + 3)) (M 1 (6 * t + 4)) (M 1 (6 * t + 5))
    exact ⟨_, _, _, _, law_feed (hx1 := rfl) (hx2 := rfl) (hx3 := rfl) (hx4 := rfl) (hx5 := rfl) s1 s2 hi hl hC.1 e1 s1 s2 rfl hM.1 e2, J_q' hG h1 hB hm⟩
theorem S_undo (hJ : z_J t len sc G M) (hi : 6 * t + 6 ≤ len) (hl : len ≤ 3072) : z_Sx 623 t len sc G M w5 w6 := by
  obtain ⟨nb, pb, n, J, B, tp, pn, c, hG, h1, hB, hm⟩ := hJ
  obtain ⟨hC, hM, hQ, hSt, hcn, k472, k1⟩ := id hG
  obtain ⟨hR, hF, ⟨t1, t2, t3, t4⟩, hrf, hfp, ⟨p1, p2, p3, p4, p5⟩, hP, hN, hK⟩ := id hm
  have hn : n ≤ 8 := hF.1.1.2
  have lo := HC_lo hC
  have s1 : (z_kd G 1).1 = 1 := by rw [k1]
  have s2 : (z_kd G 1).2 = len := by rw [k1]
  cases c with
  | zero =>
    have e1 := k_undo0 hC M p3
    have e2 := c_M_undo0 hM M (p5.trans rfl)
    exact ⟨_, _, _, _, law_undo s1 s2 hi hl hC.1 e1 s1 s2 rfl hM.1 e2, J_q' hG h1 hB hm⟩
  | succ c =>
    have e1 := k_undo1 hC M p2 (by omega) p1 p3
    obtain ⟨p, hp⟩ : ∃ p, p = (pn + 7) % 8 := ⟨_, rfl⟩
    have p8 : p < 8 := by omega
    rw [← hp] at e1
    obtain ⟨M1, hM1⟩ : ∃ M1, M1 = z_sA M 32 (z_u (z_u (M 32) 9 (nI c)) 8 (nI p)) := ⟨_, rfl⟩
    rw [← hM1] at e1
    have o1 : ∀ q, q ≠ 32 → M1 q = M q := fun q a => by rw [hM1, z_sA_n _ _ _ _ a]
    have c32 : M1 32 = z_u (z_u (M 32) 9 (nI c)) 8 (nI p) := by rw [hM1, z_sA_s]
    have hMg : z_HM (z_G9 G nb p (pb p)) := HM_G9 hM
    have e2 := c_M_undo1 hMg M1 (c := c) (by omega) (by rw [o1 455 (by omega)]; exact p5)
    obtain ⟨M2, hM2⟩ : ∃ M2, M2 = z_sA (z_sA M1 455 (z_u (z_u (M1 455) 0 (nI 0)) 14 (nI c))) 458 (z_cp 4326 (M1 (463 + c)) (M1 458)) := ⟨_, rfl⟩
    rw [← hM2] at e2
    have o : ∀ q, q ≠ 32 → q ≠ 455 → q ≠ 458 → M2 q = M q := fun q a b d => by rw [hM2, z_sA_n _ _ _ _ d, z_sA_n _ _ _ _ b, o1 q a]
    have d32 : M2 32 = z_u (z_u (M 32) 9 (nI c)) 8 (nI p) := by rw [hM2, z_sA_n _ _ _ _ (by omega), z_sA_n _ _ _ _ (by omega), c32]
    have d455 : ∀ f, f ≠ 0 → f ≠ 14 → M2 455 f = M 455 f := fun f a b => by rw [hM2, z_sA_n _ _ _ _ (by omega), z_sA_s, z_u_n _ _ _ _ b, z_u_n _ _ _ _ a, o1 455 (by omega)]
    have d14 : M2 455 14 = nI c := by rw [hM2, z_sA_n _ _ _ _ (by omega), z_sA_s, z_u_s]
    have d458 : ∀ a, a < 4326 → M2 458 a = M (463 + c) a := fun a ha => by rw [hM2, z_sA_s, z_cp_lt ha, o1 (463 + c) (by omega)]
    have hC' := HC_G9 hC p8
    have bp := HC_blo hC p8
    obtain ⟨n', J', r, f⟩ := hP c (by omega)
    have hn' : n' ≤ 8 := f.1.1.2
    rw [show (pn + 8 - (c + 1) + c) % 8 = p by omega] at r
    have gk1 : z_kd (z_G9 G nb p (pb p)) 1 = (1, len) := k1
    have g1 : (z_kd (z_G9 G nb p (pb p)) 1).1 = 1 := by rw [gk1]
    have g2 : (z_kd (z_G9 G nb p (pb p)) 1).2 = len := by rw [gk1]
    have hQ' : z_HQ (z_G9 G nb p (pb p)) := by
      obtain ⟨q1, q2, q3, q4, ⟨q5, q6⟩, q7, q8⟩ := hQ
      exact ⟨q1, (G9_rf _ _ _ _ (by omega) (by omega)).trans q2, q3, q4, ⟨(G9_rf _ _ _ _ (by omega) (by omega)).trans q5, (G9_rf _ _ _ _ (by omega) (by omega)).trans q6⟩, q7, q8⟩
    have hS' : z_St (z_G9 G nb p (pb p)) M2 := fun q hq => by
      rw [o q (by omega) (by omega) (by omega)]; exact hSt q hq
    refine ⟨z_G9 G nb p (pb p), M2, w5, w6, law_undo s1 s2 hi hl hC.1 e1 g1 g2 (o1 1 (by omega)) hMg.1 e2, pb p, z_pbs pb nb p, n', J', B, tp, p, c, ⟨hC', hMg, hQ', hS', ⟨Nat.le_trans hcn.1 (by omega), Nat.le_trans hcn.2 (by omega)⟩, k472, k1⟩, (o 1 (by omega) (by omega) (by omega)).trans h1, b_up hB, z_R_V (z_R_x r hn' d458) hn' (fun k hk => o _ (by omega) (by omega) (by omega)), z_F_x f d458, ⟨by rw [d32, z_u_n _ _ _ _ (by omega), z_u_n _ _ _ _ (by omega)]; exact t1, by rw [d455 2 (by omega) (by omega)]; exact t2, t3, fun k => ?_⟩, fun k hk => ?_, ?_, ⟨by rw [d32, z_u_s], p8, by rw [d32, z_u_n _ _ _ _ (by omega), z_u_s], by omega, d14⟩, fun j hj => ?_, fun i hi => ?_, fun k hk i hi => ?_⟩
    · rw [o 33 (by omega) (by omega) (by omega), o 457 (by omega) (by omega) (by omega)]; exact t4 k
    · rw [o 34 (by omega) (by omega) (by omega), o 456 (by omega) (by omega) (by omega)]; exact hrf k hk
    · rw [d32, z_u_n _ _ _ _ (by omega), z_u_n _ _ _ _ (by omega), d455 5 (by omega) (by omega)]; exact hfp
    · obtain ⟨n2, J2, r2, f2⟩ := hP j (by omega)
      have hn2 : n2 ≤ 8 := f2.1.1.2
      have ei : (p + 8 - c + j) % 8 = (pn + 8 - (c + 1) + j) % 8 := by omega
      have ine : (pn + 8 - (c + 1) + j) % 8 ≠ p := by omega
      have eb : z_pbs pb nb p ((pn + 8 - (c + 1) + j) % 8) = pb ((pn + 8 - (c + 1) + j) % 8) := if_neg ine
      have bk := HC_blo hC (Nat.mod_lt (pn + 8 - (c + 1) + j) (by omega : 0 < 8))
      rw [ei, eb, o (463 + j) (by omega) (by omega) (by omega)]
      exact ⟨n2, J2, z_R_V r2 hn2 (fun k hk => o _ (by omega) (by omega) (by omega)), f2⟩
    · rw [o _ (by omega) (by omega) (by omega)]; exact hN i hi
    · by_cases ek : k = p
      · subst ek
        have eb : z_pbs pb nb k k = nb := if_pos rfl
        rw [eb, o _ (by omega) (by omega) (by omega)]
        exact hR.2.2.2.2.2.2 i hi
      · have eb : z_pbs pb nb p k = pb k := if_neg ek
        have bk := HC_blo hC hk
        rw [eb, o _ (by omega) (by omega) (by omega)]
        exact hK k hk i hi
theorem S_text (hJ : z_J t len sc G M) (hi : 6 * t + 6 ≤ len) (hl : len ≤ 3072) : z_Sx 249 t len sc G M w5 w6 := by
  obtain ⟨nb, pb, n, J, B, tp, pn, c, hG, h1, hB, hm⟩ := hJ
  obtain ⟨hC, hM, hQ, hSt, hcn, k472, k1⟩ := id hG
  obtain ⟨hR, hF, ⟨t1, t2, t3, t4⟩, hrf, hfp, ⟨p1, p2, p3, p4, p5⟩, hP, hN, hK⟩ := id hm
  have hn : n ≤ 8 := hF.1.1.2
  have lo := HC_lo hC
  have hB2 : B ≤ 15800000 := by omega
  have s1 : (z_kd G 1).1 = 1 := by rw [k1]
  have s2 : (z_kd G 1).2 = len := by rw [k1]
  have o1 : (z_kd G 472).1 = 2 := by rw [k472]
  have o2 : (z_kd G 472).2 = 1 := by rw [k472]
  have eT : M 457 = M 33 := funext fun k => (t4 k).2
  rcases rg_1 (M 1 (6 * t + 1)) (tp + 1) (by omega) with ⟨sz, hsz, ex⟩ | hx
  · have hY : ∀ k, k < sz → ∃ u, u < 256 ∧ M 33 k = nI u := fun k hk => (t4 k).1 (by omega)
    cases hq : y_text (M 33) sz with
    | inl kp =>
      obtain ⟨k, p⟩ := kp
      obtain ⟨M1, e1, ⟨a1, a2, a3⟩, a4, a5, a6⟩ := k_text1 hC hQ M t1 t3 (by omega : sz ≤ tp) hY hSt hq
      have q : ∀ q, q ≠ 32 → (q < 35 ∨ 38 < q) → M1 q = M q := fun q x y => by
        by_cases z : nb ≤ q ∧ q < nb + 41
        · exact a4 q z.1 z.2
        · exact a1 q x y (by omega)
      have q457 : M1 457 = M 33 := (q 457 (by omega) (by omega)).trans eT
      have hMl : ∀ x : Int64, z_HM (z_setL (z_setR G 35 3 33) 472 0 x) := fun x => HM_k (Gk_L _ _ _ _) (HM_k (Gk_35 _ _) hM)
      have gk : ∀ x : Int64, z_Gk G (z_setL (z_setR G 35 3 33) 472 0 x) := fun x => Gk_trans (Gk_35 G 33) (Gk_L _ _ _ _)
      obtain ⟨M2, e2, ⟨b1, b2, b3⟩, b4, b5, b6⟩ := m_text1 (hMl (nI k - nI 10).toInt64) M1 (t := tp) (by rw [q 455 (by omega) (by omega)]; exact t2) t3 (by omega : sz ≤ tp) (by rw [q457]; exact hY) (St_k (gk _) hSt (fun q' hq' => q q' (by omega) (by omega))) (by rw [q457]; exact hq)
      have r : ∀ q', q' ≠ 32 → (q' < 35 ∨ 38 < q') → q' ≠ 455 → q' ≠ 459 → M2 q' = M q' := fun q' x y z1 z2 => by
        by_cases z : q' = 458
        · subst z; rw [b4]; exact q 458 (by omega) (by omega)
        · rw [b1 q' z1 z z2, q q' x y]
      have e32 : M2 32 = M1 32 := b1 32 (by omega) (by omega) (by omega)
      refine ⟨_, M2, _, _, law_text (k := 0) (hx1 := ex) s1 s2 hi hl (w_text_0 hC.1 e1 o1 o2) s1 s2 (q 1 (by omega) (by omega)) hM.1 e2 b2 o1 o2 (fun _ => lg_s _ _ _ _) (by omega), nb, pb, n, J, B, 0, pn, c, JG_k hG (gk _) ⟨Nat.le_add_right _ 1, Nat.le_add_right _ 6⟩ (fun q' hq' => r q' (by omega) (by omega) (by omega) (by omega)), (r 1 (by omega) (by omega) (by omega) (by omega)).trans h1, b_up hB, z_R_V (by rw [r 458 (by omega) (by omega) (by omega) (by omega)]; exact hR) hn (fun k hk => r _ (by omega) (by omega) (by omega) (by omega)), by rw [r 458 (by omega) (by omega) (by omega) (by omega)]; exact hF, ⟨by rw [e32]; exact a3, b3, by omega, fun k => ?_⟩, fun k hk => ?_, ?_, ⟨by rw [e32, a2 8 (by omega) (by omega) (by omega)]; exact p1, p2, by rw [e32, a6]; exact p3, p4, by rw [b6, q 455 (by omega) (by omega)]; exact p5⟩, fun j hj => ?_, fun i hi => ?_, fun k hk i hi => ?_⟩
      · rw [r 33 (by omega) (by omega) (by omega) (by omega), r 457 (by omega) (by omega) (by omega) (by omega)]; exact ⟨fun hk => absurd hk (by omega), (t4 k).2⟩
      · rw [r 34 (by omega) (by omega) (by omega) (by omega), r 456 (by omega) (by omega) (by omega) (by omega)]; exact hrf k hk
      · rw [e32, a5, b5]
      · obtain ⟨n', J', rr, f⟩ := hP j hj
        have hn' : n' ≤ 8 := f.1.1.2
        have bk := HC_blo hC (Nat.mod_lt (pn + 8 - c + j) (by omega : 0 < 8))
        rw [r (463 + j) (by omega) (by omega) (by omega) (by omega)]
        exact ⟨n', J', z_R_V rr hn' (fun k hk => r _ (by omega) (by omega) (by omega) (by omega)), f⟩
      · rw [r _ (by omega) (by omega) (by omega) (by omega)]; exact hN i hi
      · have bk := HC_blo hC hk
        rw [r _ (by omega) (by omega) (by omega) (by omega)]; exact hK k hk i hi
    | inr nS =>
      obtain ⟨m, S⟩ := nS
      obtain ⟨hS, m2, m8⟩ := SF_text hq
      obtain ⟨⟨ch, ch1, ch2, _⟩, hnum⟩ := hR.2.2.2.2.2
      obtain ⟨M1, e1, ⟨a1, a2, a3⟩, a4, a5, a6⟩ := k_text2 hC hQ M t1 t3 (by omega : sz ≤ tp) hY hSt hq (c := ch) (by have := ch2; exact this) (by omega) (fun i hi => hnum i hi)
      have q : ∀ q, q ≠ 32 → (q < 35 ∨ 38 < q) → (q < nb ∨ nb + 41 ≤ q) → M1 q = M q := a1
      have q457 : M1 457 = M 33 := (q 457 (by omega) (by omega) (by omega)).trans eT
      have hMl : ∀ x : Int64, z_HM (z_setL (z_setR G 35 3 33) 472 0 x) := fun x => HM_k (Gk_L _ _ _ _) (HM_k (Gk_35 _ _) hM)
      have gk : ∀ x : Int64, z_Gk G (z_setL (z_setR G 35 3 33) 472 0 x) := fun x => Gk_trans (Gk_35 G 33) (Gk_L _ _ _ _)
      obtain ⟨M2, e2, ⟨b1, b2, b3⟩, b5, b6, b7⟩ := m_text2 (hMl (nI m).toInt64) M1 (t := tp) (by rw [q 455 (by omega) (by omega) (by omega)]; exact t2) t3 (by omega : sz ≤ tp) (by rw [q457]; exact hY) (St_k (gk _) hSt (fun q' hq' => q q' (by omega) (by omega) (by omega))) (by rw [q457]; exact hq)
      have r : ∀ q', q' ≠ 32 → (q' < 35 ∨ 38 < q') → (q' < nb ∨ nb + 41 ≤ q') → q' ≠ 455 → q' ≠ 458 → q' ≠ 459 → M2 q' = M q' := fun q' x y z z1 z2 z3 => by rw [b1 q' z1 z2 z3, q q' x y z]
      have e32 : M2 32 = M1 32 := b1 32 (by omega) (by omega) (by omega)
      obtain ⟨J', hF'⟩ := F_bg hS m2 m8 b7
      have hR' : z_R true (0, 0) m 0 (fun k => M2 (nb + k)) (M2 458) := z_R_V (R_bg hS m8 b7 a6) m8 (fun k hk => b1 _ (by omega) (by omega) (by omega))
      refine ⟨_, M2, _, _, law_text (k := 0) (hx1 := ex) s1 s2 hi hl (w_text_0 hC.1 e1 o1 o2) s1 s2 (q 1 (by omega) (by omega) (by omega)) hM.1 e2 b2 o1 o2 (fun _ => lg_s _ _ _ _) (by omega), nb, pb, m, J', 1, 0, pn, 0, JG_k hG (gk _) ⟨Nat.le_add_right _ 1, Nat.le_add_right _ 6⟩ (fun q' hq' => r q' (by omega) (by omega) (by omega) (by omega) (by omega) (by omega)), (r 1 (by omega) (by omega) (by omega) (by omega) (by omega) (by omega)).trans h1, Nat.le_add_right 1 _, z_R_mono (by omega) hR', hF', ⟨by rw [e32]; exact a3, b3, by omega, fun k => ?_⟩, fun k hk => ?_, ?_, ⟨by rw [e32, a2 8 (by omega) (by omega) (by omega)]; exact p1, p2, by rw [e32]; exact a5, by omega, b6⟩, fun j hj => absurd hj (by omega), fun i hi => ?_, fun k hk i hi => ?_⟩
      · rw [r 33 (by omega) (by omega) (by omega) (by omega) (by omega) (by omega), r 457 (by omega) (by omega) (by omega) (by omega) (by omega) (by omega)]; exact ⟨fun hk => absurd hk (by omega), (t4 k).2⟩
      · rw [r 34 (by omega) (by omega) (by omega) (by omega) (by omega) (by omega), r 456 (by omega) (by omega) (by omega) (by omega) (by omega) (by omega)]; exact hrf k hk
      · rw [e32, a4, b5]
      · rw [r _ (by omega) (by omega) (by omega) (by omega) (by omega) (by omega)]; exact hN i hi
      · have bk := HC_blo hC hk
        have dj := HC_dj hC hk
        rw [r _ (by omega) (by omega) (by omega) (by omega) (by omega) (by omega)]; exact hK k hk i hi
  · have e1 := k_text_f hC M t1 t3 hx
    have e2 := m_text_f (HM_k (Gk_thr _) hM) (rfc M 1) (x := M 1 (6 * t + 1)) (by rw [show rfc M 1 455 = M 455 from z_sA_n _ _ _ _ (by omega), t2]; exact in_f (by omega) hx)
    exact ⟨_, _, _, _, law_text (k := 1) (hx1 := rfl) s1 s2 hi hl (w_text_x1 hC.1 e1) s1 s2 (z_sA_n _ _ _ _ (by omega)) hM.1 e2 (rfm_0 _ _ _) o1 o2 (fun q => absurd q (by omega)) (by omega), J_r hG h1 hB hm 1 (by omega)⟩
end
