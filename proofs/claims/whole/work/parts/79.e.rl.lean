/-! ===== the reference reads: a line, its content ===== -/
theorem rks_z {T : Nat → Int32} {sz : Nat} : ∀ r i S a S' b, a ≤ sz → y_rks T sz r i S a = .inr (S', b) → b ≤ sz := by
  intro r
  induction r with
  | zero => intro i S a S' b ha h; cases h; exact ha
  | succ r ih =>
    intro i S a S' b ha h
    unfold y_rks at h
    generalize hq : y_num T sz 0 99 a = q at h
    rcases q with f | ⟨c, v, p⟩
    · cases h
    · have nb := num_b ha hq
      dsimp only at h
      split at h
      · cases h
      · exact ih _ _ _ _ _ nb.1 h
theorem t1_z {T : Nat → Int32} {sz lo hi a k b : Nat} {S S' : Nat → Int32} (ha : a ≤ sz) (h : y_t1 S k (y_num T sz lo hi a) = .inr (S', b)) : b ≤ sz := by
  generalize hq : y_num T sz lo hi a = q at h
  rcases q with f | ⟨c, v, p⟩
  · cases h
  · have nb := num_b ha hq
    cases h
    omega
section
variable {G : zG} {sz a n L : Nat}
/-- a number becomes the k-th of the draft -/
theorem Ym_t1 {M0 M M1 : zM} {S : Nat → Int32} {lo k : Nat} (hS : z_DR M S) (h7 : M 455 7 = M0 455 7) (t1 : z_Tm M M1) (o : (Nat × Nat) ⊕ (Nat × Nat × Nat)) (f1 : ∀ k p, o = .inl (k, p) → (M1 455 6 = nI k ∧ M1 455 7 = nI p) ∧ (k = 1 ∨ k = 2)) (g1 : ∀ b v p, o = .inr (b, v, p) → M1 455 6 = 0 ∧ M1 455 7 = M 455 7 ∧ M1 455 4 = nI b ∧ M1 455 15 = nI p) : z_Ym M0 (z_sA M1 459 (z_u (M1 459) k (nI (y_nv lo o)))) (y_t1 S k o) := by
  have o6 : z_sA M1 459 (z_u (M1 459) k (nI (y_nv lo o))) 455 = M1 455 := z_sA_n _ _ _ _ (by omega)
  have hS1 : z_DR M1 S := fun j hj => by rw [t1.1 459 (by omega)]; exact hS j hj
  rcases o with ⟨kk, p⟩ | ⟨b, v, p⟩
  · refine ⟨fun k' p' q => ?_, fun S' b q => (by cases q)⟩
    cases q
    rw [o6]
    obtain ⟨x, y⟩ := f1 _ _ rfl
    exact ⟨x, by omega⟩
  · refine ⟨fun k' p' q => (by cases q), fun S' b' q => ?_⟩
    cases q
    rw [o6]
    obtain ⟨x1, x2, x3, x4⟩ := g1 _ _ _ rfl
    exact ⟨⟨x1, x2.trans h7, x3⟩, DR_u hS1 _ _⟩
theorem c_M_readsLine (hM : z_HM G) (M : zM) (h3 : M 455 3 = nI sz) (hsz : sz ≤ 200) (h4 : M 455 4 = nI a) (ha : a ≤ sz) (h6 : M 455 6 = 0) (hY : ∀ k, k < sz → ∃ u, u < 256 ∧ M 457 k = nI u) (hsk : y_sk (M 457) (sz - a) a = a) {S : Nat → Int32} (hS : z_DR M S) (hS0 : S 0 = nI n) (hn : n ≤ 8) (hSt : z_St G M) (h16 : M 455 16 = nI L) (hL : L < 64) : ∃ M', z_call 172 [.ref 455] G M = some (.inl none, G, M') ∧ z_Tl M M' ∧ z_Ym M M' (y_l3 (M 457) sz (y_tl (M 457) sz n S L a)) ∧ (∀ S' c, y_tl (M 457) sz n S L a = .inr (S', c) → M' 455 16 = nI (L ||| 2 ^ y_ln (M 457) a (y_we (M 457) (sz - a) a))) := by
  have e0 := l_M_word hM M h3 hsz h4 ha h6 hsk
  have wb := we_b (M 457) (sz - a) a
  have l6 := y_ln6 (M 457) a (y_we (M 457) (sz - a) a)
  obtain ⟨T, hT⟩ : ∃ T, M 457 = T := ⟨_, rfl⟩
  rw [hT] at e0 wb l6 hY ⊢
  unfold y_tl
  generalize y_we T (sz - a) a = e at e0 wb l6
  generalize y_ln T a e = k at e0 l6
  by_cases hk6 : k = 6
  · subst hk6
    rw [if_pos rfl] at e0 ⊢
    have lv : y_lv 6 = nI 4294967295 := rfl
    rw [lv] at e0
    have hw := c_M_wrong0 hM M h6 (nI 1) (nI a)
    have cf := c_M_fine hM (mw M (nI 1) (nI a))
    rw [(mw_67 M (nI 1) (nI a)).1, decide_eq_false (by decide)] at cf
    refine ⟨mw M (nI 1) (nI a), ?_, Tl_d (Td_T (Tm_mw _ _ _)), ⟨fun k' p' q => (by cases q; exact ⟨mw_67 _ _ _, by omega⟩), fun S' b q => (by cases q)⟩, fun S' c q => (by cases q)⟩
    rw [e0]
    obtain ⟨k0, ⟨r1, r8, r9, r10, r11, r12, r13, r17⟩, ⟨q1, q2⟩, ⟨q3, q4⟩, ⟨q5, q6⟩, ⟨q7, q8⟩, ⟨q9, q10⟩, ⟨q11, q12⟩, ⟨q13, q14⟩, ⟨q15, q16⟩, hp⟩ := id hM; have kr : ∀ a, z_rc a = 7 → z_kd G 455 = (0, z_rc a) := fun a h => (by rw [h]; exact k0)
    simp (disch := first | assumption | exact kr _ rfl | omega | exact Nat.le_of_ble_eq_true rfl) only [xo_2_0, xo_64_1, xk_v, xk_n, xo_41, xo_16, xo_10_1i, xo_10_1r, xo_10_1n, xo_79, xo_64_2, xo_48, xo_5, xo_54, xo_55, zk_M_readsLine_89, xo_10_2i, xo_10_2r, xo_10_2n, xo_0_2, xo_43, zk_M_readsLine_95, xo_0_1, xo_64_3, zk_M_readsLine_101, xo_63_2, zk_M_readsLine_125, xo_49, zk_M_readsLine_132, xo_69, xo_39i, xo_39r, xo_26, xo_24, xo_18, xo_17, xo_6, xo_33, xo_20, xo_21, xo_78, xo_32, hw, cf, z_b0, if_true, if_false, eq_self, Bool.true_eq_false, Bool.false_eq_true, and_true, true_and, and_false, false_and, or_true, true_or, or_false, false_or, ne_eq, not_true_eq_false, not_false_eq_true, decide_true, decide_false, z_sA_id]
  · rw [if_neg hk6] at e0 ⊢
    have hk : k < 6 := by omega
    have lv : y_lv k = nI k := if_neg hk6
    rw [lv] at e0
    have kn := nIm k (by omega)
    have m3 := (ma_f M e (f := 3) (by omega)).trans h3
    have m4 := ma_4 M e
    have m6 := (ma_f M e (f := 6) (by omega)).trans h6
    have m7 := ma_f M e (f := 7) (by omega)
    have m16 := (ma_f M e (f := 16) (by omega)).trans h16
    have mt := Tm_ma M e
    generalize ma M e = M1 at e0 m3 m4 m6 m7 m16 mt
    have cf1 := c_M_fine hM M1
    rw [decide_eq_true m6] at cf1
    have ch := c_M_has (nI L) (nI k) G M1
    rw [lt_h L hL k hk] at ch
    by_cases ht : L.testBit k = true
    · rw [if_pos ht]
      rw [ht] at ch
      have hw := c_M_wrong0 hM M1 m6 (nI 4) (nI a)
      have cf := c_M_fine hM (mw M1 (nI 4) (nI a))
      rw [(mw_67 M1 (nI 4) (nI a)).1, decide_eq_false (by decide)] at cf
      refine ⟨mw M1 (nI 4) (nI a), ?_, Tl_d (Td_T (Tm_trans mt (Tm_mw _ _ _))), ⟨fun k' p' q => (by cases q; exact ⟨mw_67 _ _ _, by omega⟩), fun S' b q => (by cases q)⟩, fun S' c q => (by cases q)⟩
      rw [e0]
      obtain ⟨k0, ⟨r1, r8, r9, r10, r11, r12, r13, r17⟩, ⟨q1, q2⟩, ⟨q3, q4⟩, ⟨q5, q6⟩, ⟨q7, q8⟩, ⟨q9, q10⟩, ⟨q11, q12⟩, ⟨q13, q14⟩, ⟨q15, q16⟩, hp⟩ := id hM; have kr : ∀ a, z_rc a = 7 → z_kd G 455 = (0, z_rc a) := fun a h => (by rw [h]; exact k0)
      simp (disch := first | assumption | exact kr _ rfl | omega | exact Nat.le_of_ble_eq_true rfl) only [xo_2_0, xo_64_1, xk_v, xk_n, xo_41, xo_16, xo_10_1i, xo_10_1r, xo_10_1n, xo_79, xo_64_2, xo_48, xo_5, xo_54, xo_55, zk_M_readsLine_89, xo_10_2i, xo_10_2r, xo_10_2n, xo_0_2, xo_43, xo_0_1, xo_64_3, zk_M_readsLine_101, zk_M_readsLine_108, xo_63_2, zk_M_readsLine_119, zk_M_readsLine_125, xo_49, zk_M_readsLine_132, xo_69, xo_39i, xo_39r, xo_26, xo_24, xo_18, xo_17, xo_6, xo_33, xo_20, xo_21, xo_78, xo_32, kn, cf1, m16, ch, hw, cf, z_b0, if_true, if_false, eq_self, Bool.true_eq_false, Bool.false_eq_true, and_true, true_and, and_false, false_and, or_true, true_or, or_false, false_or, ne_eq, not_true_eq_false, not_false_eq_true, decide_true, decide_false, z_sA_id]
    · rw [if_neg ht]
      have ht' : L.testBit k = false := by simpa using ht
      rw [ht'] at ch
      obtain ⟨ho, ho2⟩ := lt_o L hL k hk
      obtain ⟨M2, hM2⟩ : ∃ M2, M2 = z_sA M1 455 (z_u (M1 455) 16 (nI (L ||| 2 ^ k))) := ⟨_, rfl⟩
      have n16 : M2 455 16 = nI (L ||| 2 ^ k) := by rw [hM2, z_sA_s, z_u_s]
      have nf : ∀ f, f ≠ 16 → M2 455 f = M1 455 f := fun f hf => by rw [hM2, z_sA_s, z_u_n _ _ _ _ hf]
      have no : ∀ q, q ≠ 455 → M2 q = M1 q := fun q hq => by rw [hM2, z_sA_n _ _ _ _ hq]
      have tl2 : z_Tl M M2 := ⟨fun q hq h2 => (no q hq).trans (mt.1 q hq), fun f a b c d e => (nf f e).trans (mt.2 f a b c d)⟩
      have n3 := (nf 3 (by omega)).trans m3
      have n4 := (nf 4 (by omega)).trans m4
      have n6 := (nf 6 (by omega)).trans m6
      have n7 := (nf 7 (by omega)).trans m7
      have n457 : M2 457 = T := (no 457 (by omega)).trans ((mt.1 457 (by omega)).trans hT)
      have n459 : z_DR M2 S := fun j hj => by rw [no 459 (by omega), mt.1 459 (by omega)]; exact hS j hj
      have e1 : z_call 172 [.ref 455] G M = z_ex 172 (if nI k = 0 then z_blk 172 149 else z_blk 172 156) [.ref 455, .int (nI a), .int (nI k)] [] G M2 := by
        rw [e0, hM2]
        obtain ⟨k0, ⟨r1, r8, r9, r10, r11, r12, r13, r17⟩, ⟨q1, q2⟩, ⟨q3, q4⟩, ⟨q5, q6⟩, ⟨q7, q8⟩, ⟨q9, q10⟩, ⟨q11, q12⟩, ⟨q13, q14⟩, ⟨q15, q16⟩, hp⟩ := id hM; have kr : ∀ a, z_rc a = 7 → z_kd G 455 = (0, z_rc a) := fun a h => (by rw [h]; exact k0)
        by_cases hk1 : nI k = 0
        · have hk0 : (nI k = 0) = True := eq_true hk1
          simp (disch := first | assumption | exact kr _ rfl | omega | exact Nat.le_of_ble_eq_true rfl) only [xo_2_0, xo_64_1, xk_v, xk_n, xo_41, xo_16, xo_10_1i, xo_10_1r, xo_10_1n, xo_79, xo_64_2, xo_48, xo_5, xo_54, xo_55, zk_M_readsLine_89, xo_10_2i, xo_10_2r, xo_10_2n, xo_0_2, xo_43, xo_0_1, xo_64_3, zk_M_readsLine_101, zk_M_readsLine_108, xo_63_2, zk_M_readsLine_125, xo_49, xo_69, zk_M_readsLine_133, xo_39i, xo_39r, xo_26, xo_24, xo_18, xo_17, xo_6, xo_33, xo_20, xo_21, xo_78, xo_32, kn, cf1, m16, ch, ho, hk0, z_b0, if_true, if_false, eq_self, Bool.true_eq_false, Bool.false_eq_true, and_true, true_and, and_false, false_and, or_true, true_or, or_false, false_or, ne_eq, not_true_eq_false, not_false_eq_true, decide_true, decide_false, z_sA_id]
        · have hk0 : (nI k = 0) = False := eq_false hk1
          simp (disch := first | assumption | exact kr _ rfl | omega | exact Nat.le_of_ble_eq_true rfl) only [xo_2_0, xo_64_1, xk_v, xk_n, xo_41, xo_16, xo_10_1i, xo_10_1r, xo_10_1n, xo_79, xo_64_2, xo_48, xo_5, xo_54, xo_55, zk_M_readsLine_89, xo_10_2i, xo_10_2r, xo_10_2n, xo_0_2, xo_43, xo_0_1, xo_64_3, zk_M_readsLine_101, zk_M_readsLine_108, xo_63_2, zk_M_readsLine_125, xo_49, xo_69, zk_M_readsLine_133, xo_39i, xo_39r, xo_26, xo_24, xo_18, xo_17, xo_6, xo_33, xo_20, xo_21, xo_78, xo_32, kn, cf1, m16, ch, ho, hk0, z_b0, if_true, if_false, eq_self, Bool.true_eq_false, Bool.false_eq_true, and_true, true_and, and_false, false_and, or_true, true_or, or_false, false_or, ne_eq, not_true_eq_false, not_false_eq_true, decide_true, decide_false, z_sA_id]
      have fin : ∀ (M3 : zM) (o : (Nat × Nat) ⊕ ((Nat → Int32) × Nat)), z_ex 172 (if nI k = 0 then z_blk 172 149 else z_blk 172 156) [.ref 455, .int (nI a), .int (nI k)] [] G M2 = z_ex 172 (z_blk 172 205) [.ref 455, .int (nI a), .int (nI k)] [] G M3 → z_Td M2 M3 → z_Ym M M3 o → (∀ S b, o = .inr (S, b) → b ≤ sz) → ∃ M', z_call 172 [.ref 455] G M = some (.inl none, G, M') ∧ z_Tl M M' ∧ z_Ym M M' (y_l3 T sz o) ∧ (∀ S' c, o = .inr (S', c) → M' 455 16 = nI (L ||| 2 ^ k)) := by
        intro M3 o x1 x2 x3 x4
        obtain ⟨M', d1, d2, d3⟩ := l_M_lend hM M3 (T := T) (sz := sz) (by rw [x2.2 3 (by omega) (by omega) (by omega) (by omega)]; exact n3) hsz ((x2.1 457 (by omega) (by omega)).trans n457) M o x4 x3 (.int (nI a)) (.int (nI k))
        refine ⟨M', by rw [e1, x1, d1], Tl_trans tl2 (Tl_trans (Tl_d x2) (Tl_d (Td_T d2))), d3, fun _ _ _ => ?_⟩
        rw [d2.2 16 (by omega) (by omega) (by omega) (by omega), x2.2 16 (by omega) (by omega) (by omega) (by omega)]
        exact n16
      by_cases hk0 : k = 0
      · subst hk0
        rw [if_pos rfl]
        obtain ⟨M3, d1, d2, d3⟩ := c_M_readsRanks hM hsz T hY hn n 0 S e M2 .null .null .null (by omega) n459 hS0 n3 n4 (by omega) n6 n457
        have er : z_call 174 [.ref 455] G M2 = some (.inl none, G, M3) := by
          rw [← d1]
          obtain ⟨k0, ⟨r1, r8, r9, r10, r11, r12, r13, r17⟩, ⟨q1, q2⟩, ⟨q3, q4⟩, ⟨q5, q6⟩, ⟨q7, q8⟩, ⟨q9, q10⟩, ⟨q11, q12⟩, ⟨q13, q14⟩, ⟨q15, q16⟩, hp⟩ := id hM; have kr : ∀ a, z_rc a = 7 → z_kd G 455 = (0, z_rc a) := fun a h => (by rw [h]; exact k0)
          simp (disch := first | assumption | exact kr _ rfl | omega | exact Nat.le_of_ble_eq_true rfl) only [ze_M_readsRanks, zk_M_readsRanks_0, xo_5, xo_10_1i, xo_10_1r, xo_10_1n, xo_55, xo_0_1, xo_2_0, xo_17, xo_32, xo_45, xo_64_1, xk_v, xk_n, xo_48, xo_6, xo_64_3, xo_10_2i, xo_10_2r, xo_10_2n, xo_10_3i, xo_10_3r, xo_10_3n, xo_11_4i, xo_11_4r, xo_11_4n, xo_1_4, xo_0_3, xo_20, xo_0_2, xo_43, xo_54, xo_24, xo_15_4i, xo_15_4r, xo_15_4n, xo_16, xo_33, xo_15_1i, xo_15_1r, xo_15_1n, xo_69, if_true, if_false, eq_self, Bool.true_eq_false, Bool.false_eq_true, and_true, true_and, and_false, false_and, or_true, true_or, or_false, false_or, ne_eq, not_true_eq_false, not_false_eq_true, decide_true, decide_false, z_sA_id]
        refine fin M3 _ ?_ d2 ⟨d3.1, fun S' b q => ?_⟩ (fun S' b q => rks_z _ _ _ _ _ _ (by omega) q)
        · rw [if_pos (show nI 0 = 0 from rfl)]
          obtain ⟨k0, ⟨r1, r8, r9, r10, r11, r12, r13, r17⟩, ⟨q1, q2⟩, ⟨q3, q4⟩, ⟨q5, q6⟩, ⟨q7, q8⟩, ⟨q9, q10⟩, ⟨q11, q12⟩, ⟨q13, q14⟩, ⟨q15, q16⟩, hp⟩ := id hM; have kr : ∀ a, z_rc a = 7 → z_kd G 455 = (0, z_rc a) := fun a h => (by rw [h]; exact k0)
          simp (disch := first | assumption | exact kr _ rfl | omega | exact Nat.le_of_ble_eq_true rfl) only [xo_2_0, xo_64_1, xk_v, xk_n, xo_41, xo_16, xo_10_1i, xo_10_1r, xo_10_1n, xo_79, xo_64_2, xo_48, xo_5, xo_54, xo_55, xo_10_2i, xo_10_2r, xo_10_2n, xo_0_2, xo_43, xo_0_1, xo_64_3, xo_63_2, xo_49, xo_69, xo_39i, xo_39r, xo_26, xo_24, xo_18, zk_M_readsLine_149, xo_17, xo_6, xo_33, xo_20, xo_21, xo_78, xo_32, er, if_true, if_false, eq_self, Bool.true_eq_false, Bool.false_eq_true, and_true, true_and, and_false, false_and, or_true, true_or, or_false, false_or, ne_eq, not_true_eq_false, not_false_eq_true, decide_true, decide_false, z_sA_id]
        · obtain ⟨⟨u1, u2, u3⟩, u4⟩ := d3.2 S' b q
          exact ⟨⟨u1, u2.trans n7, u3⟩, u4⟩
      · rw [if_neg hk0]
        have kz : ¬ nI k = 0 := nI_ne0 (by omega) (by omega)
        by_cases hk1 : k = 1
        · subst hk1
          rw [if_pos rfl]
          obtain ⟨M3, d1, d2, d3, d4⟩ := c_M_number hM M2 n3 hsz n4 (by omega) n6 (by rw [n457]; exact hY) (lo := 1) (hi := 6) (by omega) (by omega)
          rw [n457] at d1 d3 d4
          refine fin (z_sA M3 459 (z_u (M3 459) 1 (nI (y_nv 1 (y_num T sz 1 6 e))))) _ ?_ (Td_trans (Td_T d2) (Td_9 _ _)) (Ym_t1 n459 n7 d2 _ d3 d4) (fun S' b q => t1_z (by omega) q)
          rw [if_neg kz]
          obtain ⟨k0, ⟨r1, r8, r9, r10, r11, r12, r13, r17⟩, ⟨q1, q2⟩, ⟨q3, q4⟩, ⟨q5, q6⟩, ⟨q7, q8⟩, ⟨q9, q10⟩, ⟨q11, q12⟩, ⟨q13, q14⟩, ⟨q15, q16⟩, hp⟩ := id hM; have kr : ∀ a, z_rc a = 7 → z_kd G 455 = (0, z_rc a) := fun a h => (by rw [h]; exact k0)
          have hk : (1 : Nat) < (z_kd G 459).2 := by omega
          simp (disch := first | assumption | exact kr _ rfl | omega | exact Nat.le_of_ble_eq_true rfl) only [xo_2_0, xo_64_1, xk_v, xk_n, xo_41, xo_16, xo_10_1i, xo_10_1r, xo_10_1n, xo_79, xo_64_2, xo_48, xo_5, xo_54, xo_55, xo_10_2i, xo_10_2r, xo_10_2n, xo_0_2, xo_43, xo_0_1, xo_64_3, xo_63_2, xo_49, xo_69, xo_39i, xo_39r, xo_26, xo_24, xo_18, zk_M_readsLine_156, zk_M_readsLine_161, xo_17, xo_6, xo_33, xo_20, xo_21, xo_78, xo_32, r10, d1, if_true, if_false, eq_self, Bool.true_eq_false, Bool.false_eq_true, and_true, true_and, and_false, false_and, or_true, true_or, or_false, false_or, ne_eq, not_true_eq_false, not_false_eq_true, decide_true, decide_false, z_sA_id]
        · rw [if_neg hk1]
          have k1z : (nI k = nI 1) = False := eq_false (fun q => hk1 ((nI_eq (by omega) (by omega)).mp q))
          obtain ⟨j, hj⟩ : ∃ j, k = 2 + j := ⟨k - 2, by omega⟩
          subst hj
          rw [show 2 + j - 2 = j by omega]
          obtain ⟨M3, d1, d2, d3, d4⟩ := c_M_number hM M2 n3 hsz n4 (by omega) n6 (by rw [n457]; exact hY) (y_lhi j).1 (y_lhi j).2
          rw [n457] at d1 d3 d4
          have hj4 : j < 4 := by omega
          have o4 : M2 4 j = nI (y_lo j) := by rw [no 4 (by omega), mt.1 4 (by omega), (hSt 4 (Or.inr (Or.inr (Or.inl rfl)))).2 j hj4, if_pos (Or.inr rfl)]; exact (q_loN j hj4).1
          have o5 : M2 5 j = nI (y_hi j) := by rw [no 5 (by omega), mt.1 5 (by omega), (hSt 5 (Or.inr (Or.inr (Or.inr rfl)))).2 j hj4, if_neg (by omega)]; exact (q_loN j hj4).2
          obtain ⟨x1, x2⟩ := (hSt 4 (Or.inr (Or.inr (Or.inl rfl)))).1
          obtain ⟨x3, x4⟩ := (hSt 5 (Or.inr (Or.inr (Or.inr rfl)))).1
          have hk4 : j < (z_kd G 4).2 := by omega
          have hk5 : j < (z_kd G 5).2 := by omega
          have es : nI (2 + j) - nI 2 = nI j := by rw [Nat.add_comm, ← nI_add, Int32.add_sub_cancel]
          have es2 : nI 2 + nI (2 + j) - nI 2 = nI (2 + j) := by rw [nI_add, Nat.add_comm 2 (2 + j), ← nI_add, Int32.add_sub_cancel]
          refine fin (z_sA M3 459 (z_u (M3 459) (2 + j) (nI (y_nv (y_lo j) (y_num T sz (y_lo j) (y_hi j) e))))) _ ?_ (Td_trans (Td_T d2) (Td_9 _ _)) (Ym_t1 n459 n7 d2 _ d3 d4) (fun S' b q => t1_z (by omega) q)
          rw [if_neg kz]
          obtain ⟨k0, ⟨r1, r8, r9, r10, r11, r12, r13, r17⟩, ⟨q1, q2⟩, ⟨q3, q4⟩, ⟨q5, q6⟩, ⟨q7, q8⟩, ⟨q9, q10⟩, ⟨q11, q12⟩, ⟨q13, q14⟩, ⟨q15, q16⟩, hp⟩ := id hM; have kr : ∀ a, z_rc a = 7 → z_kd G 455 = (0, z_rc a) := fun a h => (by rw [h]; exact k0)
          have hk : 2 + j < (z_kd G 459).2 := by omega
          simp (disch := first | assumption | exact kr _ rfl | omega | exact Nat.le_of_ble_eq_true rfl) only [xo_2_0, xo_64_1, xk_v, xk_n, xo_41, xo_16, xo_10_1i, xo_10_1r, xo_10_1n, xo_79, xo_64_2, xo_48, xo_5, xo_54, xo_55, xo_10_2i, xo_10_2r, xo_10_2n, xo_0_2, xo_43, xo_0_1, xo_64_3, xo_63_2, xo_49, xo_69, xo_39i, xo_39r, xo_26, xo_24, xo_18, zk_M_readsLine_156, xo_17, xo_6, xo_33, zk_M_readsLine_177, xo_20, xo_21, xo_78, xo_32, r10, k1z, es2, es, o4, o5, d1, if_true, if_false, eq_self, Bool.true_eq_false, Bool.false_eq_true, and_true, true_and, and_false, false_and, or_true, true_or, or_false, false_or, ne_eq, not_true_eq_false, not_false_eq_true, decide_true, decide_false, z_sA_id]
end
