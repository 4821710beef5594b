/-! ===== the reference reads: lines, the fresh draft ===== -/
theorem rks_0 {T : Nat → Int32} {sz : Nat} : ∀ r i S a S' b, y_rks T sz r i S a = .inr (S', b) → ∀ f, f < 33 → S' f = S f := by
  intro r
  induction r with
  | zero => intro i S a S' b h; cases h; exact fun _ _ => rfl
  | succ r ih =>
    intro i S a S' b h f hf
    unfold y_rks at h
    generalize hq : y_num T sz 0 99 a = q at h
    rcases q with g | ⟨c, v, p⟩
    · cases h
    · dsimp only at h
      split at h
      · cases h
      · rw [ih _ _ _ _ _ h f hf, z_u_n _ _ _ _ (by omega)]
theorem tl_0 {T : Nat → Int32} {sz n L a b : Nat} {S S' : Nat → Int32} (h : y_tl T sz n S L a = .inr (S', b)) : S' 0 = S 0 := by
  have t1 : ∀ k o, 1 ≤ k → y_t1 S k o = .inr (S', b) → S' 0 = S 0 := by
    intro k o hk h
    rcases o with g | ⟨c, v, p⟩
    · cases h
    · cases h; rw [z_u_n _ _ _ _ (by omega)]
  unfold y_tl at h
  split at h
  · cases h
  · split at h
    · cases h
    · split at h
      · exact rks_0 _ _ _ _ _ _ h 0 (by omega)
      · split at h
        · exact t1 _ _ (by omega) h
        · exact t1 _ _ (by omega) h
section
variable {G : zG} {sz a n L : Nat}
theorem l_M_lines (hM : z_HM G) (hsz : sz ≤ 200) (T : Nat → Int32) (hY : ∀ k, k < sz → ∃ u, u < 256 ∧ T k = nI u) (hn : n ≤ 8) (w1 w2 : Value) : ∀ f S L c M, c ≤ sz → sz - y_sk T (sz - c) c < f → z_DR M S → S 0 = nI n → M 455 3 = nI sz → M 455 4 = nI c → M 455 6 = 0 → M 455 16 = nI L → L < 64 → M 457 = T → z_St G M → ∃ M', z_ex 159 (z_blk 159 103) [.ref 455, w1, w2] [] G M = z_ex 159 (z_blk 159 125) [.ref 455, w1, w2] [] G M' ∧ z_Tl M M' ∧ (∀ k p, y_ml T sz n f S L (y_sk T (sz - c) c) = .inl (k, p) → (M' 455 6 = nI k ∧ M' 455 7 = nI p) ∧ 1 ≤ k ∧ k ≤ 4) ∧ ∀ S', y_ml T sz n f S L (y_sk T (sz - c) c) = .inr S' → M' 455 6 = 0 ∧ M' 455 7 = M 455 7 ∧ z_DR M' S' := by
  intro f
  induction f with
  | zero => intro S L c M _ hf; omega
  | succ f ih =>
    intro S L c M hc hf hS hS0 h3 h4 h6 h16 hL h457 hSt
    have c1 := c_M_here hM M h3 hsz h4 hc
    rw [h457] at c1
    have sb := sk_b T (sz - c) c
    have sst := sk_id (T := T) hc
    generalize y_sk T (sz - c) c = d at hf c1 sb sst ⊢
    have cf := c_M_fine hM M
    rw [decide_eq_true h6] at cf
    have m3 := (ma_f M d (f := 3) (by omega)).trans h3
    have m4 := ma_4 M d
    have m6 := (ma_f M d (f := 6) (by omega)).trans h6
    have m7 := ma_f M d (f := 7) (by omega)
    have m16 := (ma_f M d (f := 16) (by omega)).trans h16
    have mt := Tm_ma M d
    generalize ma M d = M1 at c1 m3 m4 m6 m7 m16 mt
    have hS1 : z_DR M1 S := fun j hj => by rw [mt.1 459 (by omega)]; exact hS j hj
    have m457 : M1 457 = T := (mt.1 457 (by omega)).trans h457
    have hSt1 : z_St G M1 := fun p hp => by rw [mt.1 p (by omega)]; exact hSt p hp
    unfold y_ml
    by_cases hd : d < sz
    · rw [if_pos hd]
      obtain ⟨u, hu, eu⟩ := hY d hd
      have hy : y_at T sz d = nI u := (if_pos hd).trans eu
      rw [hy] at c1
      have un := nIm u (by omega)
      obtain ⟨M2, d1, d2, d3, d4⟩ := c_M_readsLine hM M1 m3 hsz m4 (by omega) m6 (by rw [m457]; exact hY) (by rw [m457]; exact sst) hS1 hS0 hn hSt1 m16 hL
      rw [m457] at d3 d4
      have e0 : z_ex 159 (z_blk 159 103) [.ref 455, w1, w2] [] G M = z_ex 159 (z_blk 159 103) [.ref 455, w1, w2] [] G M2 := by
        obtain ⟨k0, ⟨r1, r8, r9, r10, r11, r12, r13, r17⟩, ⟨q1, q2⟩, ⟨q3, q4⟩, ⟨q5, q6⟩, ⟨q7, q8⟩, ⟨q9, q10⟩, ⟨q11, q12⟩, ⟨q13, q14⟩, ⟨q15, q16⟩, hp⟩ := id hM; have kr : ∀ a, z_rc a = 7 → z_kd G 455 = (0, z_rc a) := fun a h => (by rw [h]; exact k0)
        conv => lhs; rw [zk_M_text_103]
        simp (disch := first | assumption | exact kr _ rfl | omega | exact Nat.le_of_ble_eq_true rfl) only [xo_2_0, xo_5, xo_18, xo_0_1, xo_16, xo_63_3, xk_v, xk_n, xo_49, xo_54, xo_55, xo_64_4, xo_48, xo_70, xo_64_1, xo_41, xo_10_2i, xo_10_2r, xo_10_2n, xo_79, xo_64_2, xo_0_2, xo_64_3, xo_6, zk_M_text_110, xo_42, zk_M_text_118, xo_21, xo_17, xo_32, cf, z_b0, c1, un, d1, if_true, if_false, eq_self, Bool.true_eq_false, Bool.false_eq_true, and_true, true_and, and_false, false_and, or_true, true_or, or_false, false_or, ne_eq, not_true_eq_false, not_false_eq_true, decide_true, decide_false, z_sA_id]
      have tl2 : z_Tl M M2 := Tl_trans (Tl_d (Td_T mt)) d2
      have stop : ¬ M2 455 6 = 0 → z_ex 159 (z_blk 159 103) [.ref 455, w1, w2] [] G M2 = z_ex 159 (z_blk 159 125) [.ref 455, w1, w2] [] G M2 := by
        intro n6
        have cf2 := c_M_fine hM M2
        rw [decide_eq_false n6] at cf2
        obtain ⟨k0, ⟨r1, r8, r9, r10, r11, r12, r13, r17⟩, ⟨q1, q2⟩, ⟨q3, q4⟩, ⟨q5, q6⟩, ⟨q7, q8⟩, ⟨q9, q10⟩, ⟨q11, q12⟩, ⟨q13, q14⟩, ⟨q15, q16⟩, hp⟩ := id hM; have kr : ∀ a, z_rc a = 7 → z_kd G 455 = (0, z_rc a) := fun a h => (by rw [h]; exact k0)
        conv => lhs; rw [zk_M_text_103]
        simp (disch := first | assumption | exact kr _ rfl | omega | exact Nat.le_of_ble_eq_true rfl) only [xo_2_0, xo_5, xo_18, xo_0_1, xo_16, xo_63_3, xk_v, xk_n, xo_49, xo_54, xo_55, xo_64_4, xo_48, xo_70, xo_64_1, xo_41, xo_10_2i, xo_10_2r, xo_10_2n, xo_79, xo_64_2, xo_0_2, xo_64_3, xo_6, xo_42, xo_21, xo_17, xo_32, cf2, z_b0, if_true, if_false, eq_self, Bool.true_eq_false, Bool.false_eq_true, and_true, true_and, and_false, false_and, or_true, true_or, or_false, false_or, ne_eq, not_true_eq_false, not_false_eq_true, decide_true, decide_false, z_sA_id]
      generalize hq : y_tl T sz n S L d = q at d3 d4
      rcases q with ⟨k, p⟩ | ⟨S1, b⟩
      · obtain ⟨x, y⟩ := d3.1 k p rfl
        refine ⟨M2, by rw [e0, stop (by rw [x.1]; exact nI_ne0 (by omega) (by omega))], tl2, fun k' p' q => (by cases q; exact ⟨x, y⟩), fun S' q => (by cases q)⟩
      · dsimp only [y_l3] at d3
        dsimp only
        have g16 := d4 S1 b rfl
        obtain ⟨tb, tk⟩ := tl_b (by omega) hq
        generalize hq2 : y_en T sz b = q at d3
        rcases q with ⟨k, p⟩ | c'
        · obtain ⟨x, y⟩ := d3.1 k p rfl
          refine ⟨M2, by rw [e0, stop (by rw [x.1]; exact nI_ne0 (by omega) (by omega))], tl2, fun k' p' q => (by cases q; exact ⟨x, y⟩), fun S' q => (by cases q)⟩
        · obtain ⟨⟨x6, x7, x4⟩, xS⟩ := d3.2 S1 c' rfl
          have hbz : b ≤ sz := by
            have t := hq
            unfold y_tl at t
            have wb := we_b T (sz - d) d
            split at t
            · cases t
            · split at t
              · cases t
              · split at t
                · exact rks_z _ _ _ _ _ _ (by omega) t
                · split at t
                  · exact t1_z (by omega) t
                  · exact t1_z (by omega) t
          obtain ⟨z1, z2⟩ := en_b hbz hq2
          have sb2 := sk_b T (sz - c') c'
          obtain ⟨o1, o2⟩ := lt_o L hL _ tk
          dsimp only
          obtain ⟨M', v1, v2, v3, v4⟩ := ih S1 (L ||| 2 ^ y_ln T d (y_we T (sz - d) d)) c' M2 z2 (by omega) xS ((tl_0 hq).trans hS0) ((tl2.2 3 (by omega) (by omega) (by omega) (by omega) (by omega)).trans h3) x4 x6 g16 o2 ((tl2.1 457 (by omega) (by omega)).trans h457) (fun p hp => by rw [tl2.1 p (by omega) (by omega)]; exact hSt p hp)
          refine ⟨M', by rw [e0, v1], Tl_trans tl2 v2, v3, fun S' q => ?_⟩
          obtain ⟨y1, y2, y3⟩ := v4 S' q
          exact ⟨y1, y2.trans (x7.trans m7), y3⟩
    · rw [if_neg hd]
      have hy : y_at T sz d = nI 4294967295 := if_neg hd
      rw [hy] at c1
      refine ⟨M1, ?_, Tl_d (Td_T mt), fun k p q => (by cases q), fun S' q => (by cases q; exact ⟨m6, m7, hS1⟩)⟩
      obtain ⟨k0, ⟨r1, r8, r9, r10, r11, r12, r13, r17⟩, ⟨q1, q2⟩, ⟨q3, q4⟩, ⟨q5, q6⟩, ⟨q7, q8⟩, ⟨q9, q10⟩, ⟨q11, q12⟩, ⟨q13, q14⟩, ⟨q15, q16⟩, hp⟩ := id hM; have kr : ∀ a, z_rc a = 7 → z_kd G 455 = (0, z_rc a) := fun a h => (by rw [h]; exact k0)
      conv => lhs; rw [zk_M_text_103]
      simp (disch := first | assumption | exact kr _ rfl | omega | exact Nat.le_of_ble_eq_true rfl) only [xo_2_0, xo_5, xo_18, xo_0_1, xo_16, xo_63_3, xk_v, xk_n, xo_49, xo_54, xo_55, xo_64_4, xo_48, xo_70, xo_64_1, xo_41, xo_10_2i, xo_10_2r, xo_10_2n, xo_79, xo_64_2, xo_0_2, xo_64_3, xo_6, zk_M_text_110, xo_42, xo_21, xo_17, xo_32, cf, z_b0, c1, if_true, if_false, eq_self, Bool.true_eq_false, Bool.false_eq_true, and_true, true_and, and_false, false_and, or_true, true_or, or_false, false_or, ne_eq, not_true_eq_false, not_false_eq_true, decide_true, decide_false, z_sA_id]
theorem c_M_freshDraft (hM : z_HM G) (M : zM) (hn : n ≤ 8) : ∃ M', z_call 148 [.ref 455, .int (nI n)] G M = some (.inl none, G, M') ∧ (∀ q, q ≠ 459 → M' q = M q) ∧ z_DR M' (y_S0 n) := by
  obtain ⟨k0, ⟨r1, r8, r9, r10, r11, r12, r13, r17⟩, ⟨q1, q2⟩, ⟨q3, q4⟩, ⟨q5, q6⟩, ⟨q7, q8⟩, ⟨q9, q10⟩, ⟨q11, q12⟩, ⟨q13, q14⟩, ⟨q15, q16⟩, hp⟩ := id hM; have kr : ∀ a, z_rc a = 7 → z_kd G 455 = (0, z_rc a) := fun a h => (by rw [h]; exact k0)
  have e0 : z_call 148 [.ref 455, .int (nI n)] G M = z_ex 148 (z_blk 148 2) [.ref 455, .int (nI n), .int (nI 0)] [] G (z_sA M 459 (z_bw (M 459) 0 0 (fun _ => nI 0))) := by
    rw [z_bw_0, z_sA_id]
    simp (disch := first | assumption | exact kr _ rfl | omega | exact Nat.le_of_ble_eq_true rfl) only [ze_M_freshDraft, zk_M_freshDraft_0, xo_5, xo_10_2i, xo_10_2r, xo_10_2n, xo_55, xo_0_2, xo_7, xo_45, xo_2_0, xo_17, xo_33, xo_15_2i, xo_15_2r, xo_15_2n, xo_54, xo_0_1, xo_6, xo_20, xo_21, xo_69, if_true, if_false, eq_self, Bool.true_eq_false, Bool.false_eq_true, and_true, true_and, and_false, false_and, or_true, true_or, or_false, false_or, ne_eq, not_true_eq_false, not_false_eq_true, decide_true, decide_false, z_sA_id]
  have e1 := z_chain (fun k => z_ex 148 (z_blk 148 2) [.ref 455, .int (nI n), .int (nI k)] [] G (z_sA M 459 (z_bw (M 459) 0 k (fun _ => nI 0)))) 4326 (by
    intro k hk
    have hlt : nI k < nI 4326 := nI_lt hk (by omega)
    have hk2 : k < (z_kd G 459).2 := by omega
    have a5 : z_u (z_bw (M 459) 0 k (fun _ => nI 0)) k (nI 0) = z_bw (M 459) 0 (k + 1) (fun _ => nI 0) := by
      have := z_bw_u (M 459) 0 k (fun _ => nI 0)
      rwa [Nat.zero_add] at this
    conv => lhs; rw [zk_M_freshDraft_2]
    simp (disch := first | assumption | exact kr _ rfl | omega | exact Nat.le_of_ble_eq_true rfl) only [xo_5, xo_10_2i, xo_10_2r, xo_10_2n, xo_55, xo_0_2, xo_7, xo_45, zk_M_freshDraft_9, xo_2_0, xo_17, xo_33, xo_15_2i, xo_15_2r, xo_15_2n, xo_54, xo_0_1, xo_6, xo_20, xo_21, xo_69, hlt, r10, z_sA_s, z_sA_sA, a5, nI_add, if_true, if_false, eq_self, Bool.true_eq_false, Bool.false_eq_true, and_true, true_and, and_false, false_and, or_true, true_or, or_false, false_or, ne_eq, not_true_eq_false, not_false_eq_true, decide_true, decide_false, z_sA_id]) 4326 0 (by omega)
  have hltn : ¬ nI 4326 < nI 4326 := nI_nlt (Nat.le_refl _) (by omega)
  obtain ⟨Y, hYd⟩ : ∃ Y, Y = z_u (z_u (z_u (z_u (z_u (z_u (z_bw (M 459) 0 4326 (fun _ => nI 0)) 0 (nI n)) 1 (nI 3)) 2 (nI 8)) 3 (nI 4)) 4 (nI 3)) 5 (nI 1) := ⟨_, rfl⟩
  have j0 : (0 : Nat) < (z_kd G 459).2 := by omega
  have j1 : (1 : Nat) < (z_kd G 459).2 := by omega
  have j2 : (2 : Nat) < (z_kd G 459).2 := by omega
  have j3 : (3 : Nat) < (z_kd G 459).2 := by omega
  have j4 : (4 : Nat) < (z_kd G 459).2 := by omega
  have j5 : (5 : Nat) < (z_kd G 459).2 := by omega
  have e2 : z_ex 148 (z_blk 148 2) [.ref 455, .int (nI n), .int (nI 4326)] [] G (z_sA M 459 (z_bw (M 459) 0 4326 (fun _ => nI 0))) = z_ex 148 (z_blk 148 67) [.ref 455, .int (nI n), .int (nI 0)] [] G (z_sA M 459 (z_bw Y 33 0 (fun j => nI n - nI j))) := by
    rw [z_bw_0, hYd]
    conv => lhs; rw [zk_M_freshDraft_2]
    simp (disch := first | assumption | exact kr _ rfl | omega | exact Nat.le_of_ble_eq_true rfl) only [xo_5, xo_10_2i, xo_10_2r, xo_10_2n, xo_55, xo_0_2, xo_7, xo_45, xo_2_0, xo_17, xo_33, xo_15_2i, xo_15_2r, xo_15_2n, xo_54, zk_M_freshDraft_22, xo_0_1, xo_6, xo_20, xo_21, xo_69, hltn, r10, z_sA_s, z_sA_sA, if_true, if_false, eq_self, Bool.true_eq_false, Bool.false_eq_true, and_true, true_and, and_false, false_and, or_true, true_or, or_false, false_or, ne_eq, not_true_eq_false, not_false_eq_true, decide_true, decide_false, z_sA_id]
  have e3 := z_chain (fun i => z_ex 148 (z_blk 148 67) [.ref 455, .int (nI n), .int (nI i)] [] G (z_sA M 459 (z_bw Y 33 i (fun j => nI n - nI j)))) n (by
    intro i hi
    have hlt : nI i < nI n := nI_lt hi (by omega)
    have hk : 33 + i < (z_kd G 459).2 := by omega
    have a5 := z_bw_u Y 33 i (fun j => nI n - nI j)
    conv => lhs; rw [zk_M_freshDraft_67]
    simp (disch := first | assumption | exact kr _ rfl | omega | exact Nat.le_of_ble_eq_true rfl) only [xo_5, xo_10_2i, xo_10_2r, xo_10_2n, xo_55, xo_0_2, xo_7, xo_45, xo_2_0, xo_17, xo_33, xo_15_2i, xo_15_2r, xo_15_2n, xo_54, xo_0_1, xo_6, zk_M_freshDraft_72, xo_20, xo_21, xo_69, hlt, r10, nI_add, z_sA_s, z_sA_sA, a5, if_true, if_false, eq_self, Bool.true_eq_false, Bool.false_eq_true, and_true, true_and, and_false, false_and, or_true, true_or, or_false, false_or, ne_eq, not_true_eq_false, not_false_eq_true, decide_true, decide_false, z_sA_id]) n 0 (by omega)
  have hlt : ¬ nI n < nI n := nI_nlt (Nat.le_refl _) (by omega)
  refine ⟨z_sA M 459 (z_bw Y 33 n (fun j => nI n - nI j)), ?_, fun q hq => z_sA_n _ _ _ _ hq, fun k hk => ?_⟩
  · rw [e0, e1, e2, e3]
    conv => lhs; rw [zk_M_freshDraft_67]
    simp (disch := first | assumption | exact kr _ rfl | omega | exact Nat.le_of_ble_eq_true rfl) only [xo_5, xo_10_2i, xo_10_2r, xo_10_2n, xo_55, xo_0_2, xo_7, xo_45, xo_2_0, xo_17, xo_33, xo_15_2i, xo_15_2r, xo_15_2n, xo_54, xo_0_1, xo_6, xo_20, xo_21, zk_M_freshDraft_90, xo_69, hlt, if_true, if_false, eq_self, Bool.true_eq_false, Bool.false_eq_true, and_true, true_and, and_false, false_and, or_true, true_or, or_false, false_or, ne_eq, not_true_eq_false, not_false_eq_true, decide_true, decide_false, z_sA_id]
  · rw [z_sA_s]
    by_cases h33 : 33 ≤ k ∧ k < 33 + n
    · rw [z_bw_at _ _ _ _ _ h33.1 h33.2, nI_sub (by omega)]
      unfold y_S0
      rw [if_neg (by omega), if_neg (by omega), if_neg (by omega), if_neg (by omega), if_neg (by omega), if_neg (by omega), if_pos h33]
    · rw [z_bw_out _ _ _ _ _ (by omega), hYd]
      unfold y_S0 z_u
      rw [if_neg h33]
      by_cases b5 : k = 5
      · subst b5; rfl
      · rw [if_neg b5]
        by_cases b4 : k = 4
        · subst b4; rfl
        · rw [if_neg b4]
          by_cases b3 : k = 3
          · subst b3; rfl
          · rw [if_neg b3]
            by_cases b2 : k = 2
            · subst b2; rfl
            · rw [if_neg b2]
              by_cases b1 : k = 1
              · subst b1; rfl
              · rw [if_neg b1]
                by_cases b0 : k = 0
                · subst b0; rfl
                · rw [if_neg b0, if_neg b0, if_neg b1, if_neg b2, if_neg b3, if_neg b4, if_neg b5]
                  exact z_bw_at _ _ _ _ _ (by omega) (by omega)
end
