/-! ===== circles, sets, ONE: in the reference ===== -/
theorem c_M_circleOf {G : zG} (hM : z_HM G) (M : zM) {n i : Nat} (h0 : M 458 0 = nI n) (hn : n ≤ 8) (hi : i < 8) : z_call 212 [.ref 455, .int (nI i)] G M = some (.inl (some (.int (nI (f_ci n (M 458) i)))), G, M) := by
  obtain ⟨k0, ⟨r1, r8, r9, r10, r11, r12, r13, r17⟩, ⟨q1, q2⟩, ⟨q3, q4⟩, ⟨q5, q6⟩, ⟨q7, q8⟩, ⟨q9, q10⟩, ⟨q11, q12⟩, ⟨q13, q14⟩, ⟨q15, q16⟩, hp⟩ := id hM; have kr : ∀ a, z_rc a = 7 → z_kd G 455 = (0, z_rc a) := fun a h => (by rw [h]; exact k0)
  have e0 : z_call 212 [.ref 455, .int (nI i)] G M = z_ex 212 (z_blk 212 4) [.ref 455, .int (nI i), .int (nI 0), .int (nI 0)] [] G M := by
    simp only [ze_M_circleOf, zk_M_circleOf_0, xo_5, xo_10_2i, xo_10_2r, xo_10_2n, xo_10_3i, xo_10_3r, xo_10_3n, xo_55, xo_0_3, xo_2_0, xo_17, xo_32, xo_45, xo_0_1, xo_64_2, xk_v, xk_n, xo_48, xo_0_2, xo_63_2, xo_43, xo_26, xo_54, xo_24, xo_15_3i, xo_15_3r, xo_15_3n, xo_70]
  rw [e0]
  have hlt : ¬ nI n < nI n := nI_nlt (Nat.le_refl _) (by omega)
  unfold f_ci
  by_cases hN : M 458 (41 + 28 * i) = 0
  · rw [if_pos hN]
    have e := z_loop0 (fun o a => z_ex 212 (z_blk 212 4) [.ref 455, .int (nI i), .int (nI a), .int (nI o)] [] G M) (fun o a => if (decide (M 458 (41 + 28 * o) = 0) && decide (M 458 (41 + 28 * o + 3) = M 458 (41 + 28 * i + 3))) = true then a ||| 2 ^ o else a) n (by
      intro o a ho
      have hlt : nI o < nI n := nI_lt ho (by omega)
      have hb := z_bitN o (by omega)
      have ho0 : nI a ||| nI 0 = nI a := by rw [z_orNN, Nat.or_zero]
      by_cases h1 : M 458 (41 + 28 * o) = 0
      · by_cases h2 : M 458 (41 + 28 * o + 3) = M 458 (41 + 28 * i + 3)
        · rw [if_pos (by rw [decide_eq_true h1, decide_eq_true h2]; rfl)]
          conv => lhs; rw [zk_M_circleOf_4]
          simp (disch := first | assumption | exact kr _ rfl | omega | exact Nat.le_of_ble_eq_true rfl) only [xo_5, xo_10_2i, xo_10_2r, xo_10_2n, xo_10_3i, xo_10_3r, xo_10_3n, xo_55, xo_0_3, xo_2_0, xo_17, xo_32, xo_45, zk_M_circleOf_14, xo_0_1, xo_64_2, xk_v, xk_n, xo_48, zk_M_circleOf_22, xo_0_2, zk_M_circleOf_31, xo_63_2, xo_43, zk_M_circleOf_54, xo_26, xo_54, zk_M_circleOf_61, xo_24, xo_15_3i, xo_15_3r, xo_15_3n, xo_70, nI_add, pk_mul, Nat.add_zero, z_sA_s, z_sA_sA, z_u_s, r9, c_M_m, h0, hlt, zr_M_isNormal, c_M_isNormal hM, hN, h1, h2, z_b0, hb, z_orNN, if_true, if_false, eq_self, Bool.true_eq_false, Bool.false_eq_true, and_true, true_and, and_false, false_and, or_true, true_or, or_false, false_or, ne_eq, not_true_eq_false, not_false_eq_true, decide_true, decide_false, z_sA_id]
        · rw [if_neg (by rw [decide_eq_false h2, Bool.and_false]; decide)]
          conv => lhs; rw [zk_M_circleOf_4]
          simp (disch := first | assumption | exact kr _ rfl | omega | exact Nat.le_of_ble_eq_true rfl) only [xo_5, xo_10_2i, xo_10_2r, xo_10_2n, xo_10_3i, xo_10_3r, xo_10_3n, xo_55, xo_0_3, xo_2_0, xo_17, xo_32, xo_45, zk_M_circleOf_14, xo_0_1, xo_64_2, xk_v, xk_n, xo_48, zk_M_circleOf_22, xo_0_2, zk_M_circleOf_31, xo_63_2, xo_43, xo_26, xo_54, zk_M_circleOf_60, zk_M_circleOf_61, xo_24, xo_15_3i, xo_15_3r, xo_15_3n, xo_70, nI_add, pk_mul, Nat.add_zero, z_sA_s, z_sA_sA, z_u_s, r9, c_M_m, h0, hlt, zr_M_isNormal, c_M_isNormal hM, hN, h1, h2, z_b0, ho0, if_true, if_false, eq_self, Bool.true_eq_false, Bool.false_eq_true, and_true, true_and, and_false, false_and, or_true, true_or, or_false, false_or, ne_eq, not_true_eq_false, not_false_eq_true, decide_true, decide_false, z_sA_id]
      · rw [if_neg (by rw [decide_eq_false h1, Bool.false_and]; decide)]
        conv => lhs; rw [zk_M_circleOf_4]
        simp (disch := first | assumption | exact kr _ rfl | omega | exact Nat.le_of_ble_eq_true rfl) only [xo_5, xo_10_2i, xo_10_2r, xo_10_2n, xo_10_3i, xo_10_3r, xo_10_3n, xo_55, xo_0_3, xo_2_0, xo_17, xo_32, xo_45, zk_M_circleOf_14, xo_0_1, xo_64_2, xk_v, xk_n, xo_48, zk_M_circleOf_22, xo_0_2, xo_63_2, xo_43, xo_26, xo_54, zk_M_circleOf_60, zk_M_circleOf_61, xo_24, xo_15_3i, xo_15_3r, xo_15_3n, xo_70, nI_add, pk_mul, Nat.add_zero, z_sA_s, z_sA_sA, z_u_s, r9, c_M_m, h0, hlt, zr_M_isNormal, c_M_isNormal hM, hN, h1, z_b0, ho0, if_true, if_false, eq_self, Bool.true_eq_false, Bool.false_eq_true, and_true, true_and, and_false, false_and, or_true, true_or, or_false, false_or, ne_eq, not_true_eq_false, not_false_eq_true, decide_true, decide_false, z_sA_id]) n 0 0 (by omega)
    rw [e]
    conv => lhs; rw [zk_M_circleOf_4]
    simp (disch := first | assumption | exact kr _ rfl | omega | exact Nat.le_of_ble_eq_true rfl) only [xo_5, xo_10_2i, xo_10_2r, xo_10_2n, xo_10_3i, xo_10_3r, xo_10_3n, xo_55, xo_0_3, xo_2_0, xo_17, xo_32, xo_45, xo_0_1, xo_64_2, xk_v, xk_n, xo_48, xo_0_2, xo_63_2, xo_43, xo_26, xo_54, xo_24, xo_15_3i, xo_15_3r, xo_15_3n, zk_M_circleOf_69, xo_70, nI_add, pk_mul, Nat.add_zero, z_sA_s, z_sA_sA, z_u_s, r9, h0, hlt, if_true, if_false, eq_self, Bool.true_eq_false, Bool.false_eq_true, and_true, true_and, and_false, false_and, or_true, true_or, or_false, false_or, ne_eq, not_true_eq_false, not_false_eq_true, decide_true, decide_false, z_sA_id, z_bs]
  · rw [if_neg hN]
    by_cases hn0 : n = 0
    · subst hn0
      conv => lhs; rw [zk_M_circleOf_4]
      simp (disch := first | assumption | exact kr _ rfl | omega | exact Nat.le_of_ble_eq_true rfl) only [xo_5, xo_10_2i, xo_10_2r, xo_10_2n, xo_10_3i, xo_10_3r, xo_10_3n, xo_55, xo_0_3, xo_2_0, xo_17, xo_32, xo_45, xo_0_1, xo_64_2, xk_v, xk_n, xo_48, xo_0_2, xo_63_2, xo_43, xo_26, xo_54, xo_24, xo_15_3i, xo_15_3r, xo_15_3n, zk_M_circleOf_69, xo_70, nI_add, pk_mul, Nat.add_zero, z_sA_s, z_sA_sA, z_u_s, r9, h0, hlt, if_true, if_false, eq_self, Bool.true_eq_false, Bool.false_eq_true, and_true, true_and, and_false, false_and, or_true, true_or, or_false, false_or, ne_eq, not_true_eq_false, not_false_eq_true, decide_true, decide_false, z_sA_id]
    · have hlt0 : nI 0 < nI n := nI_lt (by omega) (by omega)
      conv => lhs; rw [zk_M_circleOf_4]
      simp (disch := first | assumption | exact kr _ rfl | omega | exact Nat.le_of_ble_eq_true rfl) only [xo_5, xo_10_2i, xo_10_2r, xo_10_2n, xo_10_3i, xo_10_3r, xo_10_3n, xo_55, xo_0_3, xo_2_0, xo_17, xo_32, xo_45, zk_M_circleOf_14, xo_0_1, xo_64_2, xk_v, xk_n, xo_48, xo_0_2, xo_63_2, xo_43, xo_26, xo_54, xo_24, xo_15_3i, xo_15_3r, xo_15_3n, zk_M_circleOf_69, xo_70, nI_add, pk_mul, Nat.add_zero, z_sA_s, z_sA_sA, z_u_s, r9, h0, hlt0, zr_M_isNormal, c_M_isNormal hM, hN, z_b0, if_true, if_false, eq_self, Bool.true_eq_false, Bool.false_eq_true, and_true, true_and, and_false, false_and, or_true, true_or, or_false, false_or, ne_eq, not_true_eq_false, not_false_eq_true, decide_true, decide_false, z_sA_id]
theorem c_M_setOf {G : zG} (hM : z_HM G) (M : zM) {n i : Nat} (h0 : M 458 0 = nI n) (hn : n ≤ 8) (hi : i < n) : z_call 215 [.ref 455, .int (nI i)] G M = some (.inl (some (.int (nI (f_so n (M 458) i)))), G, M) := by
  obtain ⟨k0, ⟨r1, r8, r9, r10, r11, r12, r13, r17⟩, ⟨q1, q2⟩, ⟨q3, q4⟩, ⟨q5, q6⟩, ⟨q7, q8⟩, ⟨q9, q10⟩, ⟨q11, q12⟩, ⟨q13, q14⟩, ⟨q15, q16⟩, hp⟩ := id hM; have kr : ∀ a, z_rc a = 7 → z_kd G 455 = (0, z_rc a) := fun a h => (by rw [h]; exact k0)
  have hlt : ¬ nI n < nI n := nI_nlt (Nat.le_refl _) (by omega)
  have hb := z_bitN i (by omega)
  have e0 : z_call 215 [.ref 455, .int (nI i)] G M = z_ex 215 (z_blk 215 18) [.ref 455, .int (nI i), .int (nI (f_s0 (M 458) i)), .int (nI 0), .null, .null] [] G M := by
    unfold f_s0
    by_cases hd : M 458 (41 + 28 * i) = nI 2
    · rw [if_pos hd]
      simp (disch := first | assumption | exact kr _ rfl | omega | exact Nat.le_of_ble_eq_true rfl) only [ze_M_setOf, zk_M_setOf_0, xo_2_0, xo_0_1, xo_64_2, xk_v, xk_n, xo_48, zk_M_setOf_8, xo_5, xo_54, xo_26, xo_55, zk_M_setOf_15, xo_10_2i, xo_10_2r, xo_10_2n, xo_10_3i, xo_10_3r, xo_10_3n, xo_0_3, xo_17, xo_32, xo_45, xo_11_4i, xo_11_4r, xo_11_4n, xo_1_4, xo_11_5i, xo_11_5r, xo_11_5n, xo_1_5, xo_0_2, xo_63_2, xo_49, xo_42, xo_64_3, xo_24, xo_15_5i, xo_15_5r, xo_15_5n, xo_15_4i, xo_15_4r, xo_15_4n, xo_15_3i, xo_15_3r, xo_15_3n, xo_70, nI_add, pk_mul, Nat.add_zero, z_sA_s, z_sA_sA, z_u_s, zr_M_isDown, c_M_isDown hM, hd, z_b0, if_true, if_false, eq_self, Bool.true_eq_false, Bool.false_eq_true, and_true, true_and, and_false, false_and, or_true, true_or, or_false, false_or, ne_eq, not_true_eq_false, not_false_eq_true, decide_true, decide_false, z_sA_id]
    · rw [if_neg hd]
      simp (disch := first | assumption | exact kr _ rfl | omega | exact Nat.le_of_ble_eq_true rfl) only [ze_M_setOf, zk_M_setOf_0, xo_2_0, xo_0_1, xo_64_2, xk_v, xk_n, xo_48, xo_5, xo_54, zk_M_setOf_12, xo_26, xo_55, zk_M_setOf_15, xo_10_2i, xo_10_2r, xo_10_2n, xo_10_3i, xo_10_3r, xo_10_3n, xo_0_3, xo_17, xo_32, xo_45, xo_11_4i, xo_11_4r, xo_11_4n, xo_1_4, xo_11_5i, xo_11_5r, xo_11_5n, xo_1_5, xo_0_2, xo_63_2, xo_49, xo_42, xo_64_3, xo_24, xo_15_5i, xo_15_5r, xo_15_5n, xo_15_4i, xo_15_4r, xo_15_4n, xo_15_3i, xo_15_3r, xo_15_3n, xo_70, nI_add, pk_mul, Nat.add_zero, z_sA_s, z_sA_sA, z_u_s, zr_M_isDown, c_M_isDown hM, hd, z_b0, hb, if_true, if_false, eq_self, Bool.true_eq_false, Bool.false_eq_true, and_true, true_and, and_false, false_and, or_true, true_or, or_false, false_or, ne_eq, not_true_eq_false, not_false_eq_true, decide_true, decide_false, z_sA_id]
  -- the innermost loop
  have in3 : ∀ (a S : Nat) (rd : Nat) (w : Value), a < n → S < 256 → (∀ j, S.testBit j = true → j < n) → z_ex 215 (z_blk 215 45) [.ref 455, .int (nI i), .int (nI S), .int (nI rd), .int (nI a), .int (nI 0)] [] G M = z_ex 215 (z_blk 215 105) [.ref 455, .int (nI i), .int (nI (z_q1 (f_ed (M 458)) n a S)), .int (nI rd), .int (nI a), .int (nI n)] [] G M := by
    intro a S rd w ha hS hSb
    have e := z_loop (fun b T => z_ex 215 (z_blk 215 45) [.ref 455, .int (nI i), .int (nI T), .int (nI rd), .int (nI a), .int (nI b)] [] G M) (fun b T => if (T.testBit a && f_ed (M 458) a b) = true then T ||| 2 ^ b else T) n (fun _ T => T < 256) (by
      intro b T hb hT
      have hlt : nI b < nI n := nI_lt hb (by omega)
      have hbb := z_bitN b (by omega)
      have hhas := z_hasN T hT a (by omega)
      refine ⟨?_, by split; exact z_or8 hT (by omega); exact hT⟩
      unfold f_ed
      cases hTa : T.testBit a
      · rw [hTa] at hhas
        rw [if_neg (by rw [Bool.false_and]; decide)]
        conv => lhs; rw [zk_M_setOf_45]
        simp (disch := first | assumption | exact kr _ rfl | omega | exact Nat.le_of_ble_eq_true rfl) only [xo_2_0, xo_0_1, xo_64_2, xk_v, xk_n, xo_48, xo_5, xo_54, xo_26, xo_55, xo_10_2i, xo_10_2r, xo_10_2n, xo_10_3i, xo_10_3r, xo_10_3n, xo_0_3, xo_17, xo_32, xo_45, xo_11_4i, xo_11_4r, xo_11_4n, xo_1_4, xo_11_5i, xo_11_5r, xo_11_5n, xo_1_5, zk_M_setOf_56, xo_0_2, xo_63_2, xo_49, xo_42, xo_64_3, xo_24, zk_M_setOf_99, xo_15_5i, xo_15_5r, xo_15_5n, xo_15_4i, xo_15_4r, xo_15_4n, xo_15_3i, xo_15_3r, xo_15_3n, xo_70, nI_add, pk_mul, Nat.add_zero, z_sA_s, z_sA_sA, z_u_s, r9, h0, hlt, c_M_has, hhas, z_b0, if_true, if_false, eq_self, Bool.true_eq_false, Bool.false_eq_true, and_true, true_and, and_false, false_and, or_true, true_or, or_false, false_or, ne_eq, not_true_eq_false, not_false_eq_true, decide_true, decide_false, z_sA_id]
      · rw [hTa] at hhas
        by_cases hd : M 458 (41 + 28 * b) = nI 2
        · rw [if_neg (by rw [decide_eq_true hd]; simp)]
          conv => lhs; rw [zk_M_setOf_45]
          simp (disch := first | assumption | exact kr _ rfl | omega | exact Nat.le_of_ble_eq_true rfl) only [xo_2_0, xo_0_1, xo_64_2, xk_v, xk_n, xo_48, xo_5, xo_54, xo_26, xo_55, xo_10_2i, xo_10_2r, xo_10_2n, xo_10_3i, xo_10_3r, xo_10_3n, xo_0_3, xo_17, xo_32, xo_45, xo_11_4i, xo_11_4r, xo_11_4n, xo_1_4, xo_11_5i, xo_11_5r, xo_11_5n, xo_1_5, zk_M_setOf_56, xo_0_2, xo_63_2, zk_M_setOf_65, xo_49, xo_42, xo_64_3, xo_24, zk_M_setOf_99, xo_15_5i, xo_15_5r, xo_15_5n, xo_15_4i, xo_15_4r, xo_15_4n, xo_15_3i, xo_15_3r, xo_15_3n, xo_70, nI_add, pk_mul, Nat.add_zero, z_sA_s, z_sA_sA, z_u_s, r9, h0, hlt, c_M_has, hhas, zr_M_isDown, c_M_isDown hM, hd, z_b0, if_true, if_false, eq_self, Bool.true_eq_false, Bool.false_eq_true, and_true, true_and, and_false, false_and, or_true, true_or, or_false, false_or, ne_eq, not_true_eq_false, not_false_eq_true, decide_true, decide_false, z_sA_id]
        · by_cases hab : a = b
          · rw [if_neg (by rw [decide_eq_true hab]; simp)]
            have e1 : (nI a = nI b) = True := eq_true (by rw [hab])
            conv => lhs; rw [zk_M_setOf_45]
            simp (disch := first | assumption | exact kr _ rfl | omega | exact Nat.le_of_ble_eq_true rfl) only [xo_2_0, xo_0_1, xo_64_2, xk_v, xk_n, xo_48, xo_5, xo_54, xo_26, xo_55, xo_10_2i, xo_10_2r, xo_10_2n, xo_10_3i, xo_10_3r, xo_10_3n, xo_0_3, xo_17, xo_32, xo_45, xo_11_4i, xo_11_4r, xo_11_4n, xo_1_4, xo_11_5i, xo_11_5r, xo_11_5n, xo_1_5, zk_M_setOf_56, xo_0_2, xo_63_2, zk_M_setOf_65, xo_49, zk_M_setOf_74, xo_42, xo_64_3, xo_24, zk_M_setOf_99, xo_15_5i, xo_15_5r, xo_15_5n, xo_15_4i, xo_15_4r, xo_15_4n, xo_15_3i, xo_15_3r, xo_15_3n, xo_70, nI_add, pk_mul, Nat.add_zero, z_sA_s, z_sA_sA, z_u_s, r9, h0, hlt, c_M_has, hhas, zr_M_isDown, c_M_isDown hM, hd, e1, z_b0, if_true, if_false, eq_self, Bool.true_eq_false, Bool.false_eq_true, and_true, true_and, and_false, false_and, or_true, true_or, or_false, false_or, ne_eq, not_true_eq_false, not_false_eq_true, decide_true, decide_false, z_sA_id]
          · have e1 : (nI a = nI b) = False := eq_false (fun q => hab ((nI_eq (by omega) (by omega)).mp q))
            cases hw : zf_has (M 458 (25 + a)) (nI b)
            · rw [if_pos (by rw [decide_eq_false hd, decide_eq_false hab]; rfl)]
              conv => lhs; rw [zk_M_setOf_45]
              simp (disch := first | assumption | exact kr _ rfl | omega | exact Nat.le_of_ble_eq_true rfl) only [xo_2_0, xo_0_1, xo_64_2, xk_v, xk_n, xo_48, xo_5, xo_54, xo_26, xo_55, xo_10_2i, xo_10_2r, xo_10_2n, xo_10_3i, xo_10_3r, xo_10_3n, xo_0_3, xo_17, xo_32, xo_45, xo_11_4i, xo_11_4r, xo_11_4n, xo_1_4, xo_11_5i, xo_11_5r, xo_11_5n, xo_1_5, zk_M_setOf_56, xo_0_2, xo_63_2, zk_M_setOf_65, xo_49, zk_M_setOf_74, xo_42, zk_M_setOf_81, xo_64_3, zk_M_setOf_92, xo_24, zk_M_setOf_99, xo_15_5i, xo_15_5r, xo_15_5n, xo_15_4i, xo_15_4r, xo_15_4n, xo_15_3i, xo_15_3r, xo_15_3n, xo_70, nI_add, pk_mul, Nat.add_zero, z_sA_s, z_sA_sA, z_u_s, r9, h0, hlt, c_M_has, hhas, zr_M_isDown, c_M_isDown hM, zr_M_isWhole, c_M_isWhole hM, hd, e1, hw, z_b0, hbb, z_orNN, Bool.not_false, if_true, if_false, eq_self, Bool.true_eq_false, Bool.false_eq_true, and_true, true_and, and_false, false_and, or_true, true_or, or_false, false_or, ne_eq, not_true_eq_false, not_false_eq_true, decide_true, decide_false, z_sA_id]
            · rw [if_neg (by simp)]
              conv => lhs; rw [zk_M_setOf_45]
              simp (disch := first | assumption | exact kr _ rfl | omega | exact Nat.le_of_ble_eq_true rfl) only [xo_2_0, xo_0_1, xo_64_2, xk_v, xk_n, xo_48, xo_5, xo_54, xo_26, xo_55, xo_10_2i, xo_10_2r, xo_10_2n, xo_10_3i, xo_10_3r, xo_10_3n, xo_0_3, xo_17, xo_32, xo_45, xo_11_4i, xo_11_4r, xo_11_4n, xo_1_4, xo_11_5i, xo_11_5r, xo_11_5n, xo_1_5, zk_M_setOf_56, xo_0_2, xo_63_2, zk_M_setOf_65, xo_49, zk_M_setOf_74, xo_42, zk_M_setOf_81, xo_64_3, xo_24, zk_M_setOf_99, xo_15_5i, xo_15_5r, xo_15_5n, xo_15_4i, xo_15_4r, xo_15_4n, xo_15_3i, xo_15_3r, xo_15_3n, xo_70, nI_add, pk_mul, Nat.add_zero, z_sA_s, z_sA_sA, z_u_s, r9, h0, hlt, c_M_has, hhas, zr_M_isDown, c_M_isDown hM, zr_M_isWhole, c_M_isWhole hM, hd, e1, hw, z_b0, Bool.not_true, if_true, if_false, eq_self, Bool.true_eq_false, Bool.false_eq_true, and_true, true_and, and_false, false_and, or_true, true_or, or_false, false_or, ne_eq, not_true_eq_false, not_false_eq_true, decide_true, decide_false, z_sA_id]) n 0 S (by omega) hS
    rw [e]
    conv => lhs; rw [zk_M_setOf_45]
    simp (disch := first | assumption | exact kr _ rfl | omega | exact Nat.le_of_ble_eq_true rfl) only [xo_2_0, xo_0_1, xo_64_2, xk_v, xk_n, xo_48, xo_5, xo_54, xo_26, xo_55, xo_10_2i, xo_10_2r, xo_10_2n, xo_10_3i, xo_10_3r, xo_10_3n, xo_0_3, xo_17, xo_32, xo_45, xo_11_4i, xo_11_4r, xo_11_4n, xo_1_4, xo_11_5i, xo_11_5r, xo_11_5n, xo_1_5, xo_0_2, xo_63_2, xo_49, xo_42, xo_64_3, xo_24, xo_15_5i, xo_15_5r, xo_15_5n, xo_15_4i, xo_15_4r, xo_15_4n, xo_15_3i, xo_15_3r, xo_15_3n, xo_70, nI_add, pk_mul, Nat.add_zero, z_sA_s, z_sA_sA, z_u_s, r9, h0, hlt, if_true, if_false, eq_self, Bool.true_eq_false, Bool.false_eq_true, and_true, true_and, and_false, false_and, or_true, true_or, or_false, false_or, ne_eq, not_true_eq_false, not_false_eq_true, decide_true, decide_false, z_sA_id, z_q1]
  have in2 : ∀ (S rd : Nat) (w1 w2 : Value), S < 256 → (∀ j, S.testBit j = true → j < n) → ∃ w1' w2', z_ex 215 (z_blk 215 28) [.ref 455, .int (nI i), .int (nI S), .int (nI rd), w1, w2] [] G M = z_ex 215 (z_blk 215 18) [.ref 455, .int (nI i), .int (nI (z_q2 (f_ed (M 458)) n S)), .int (nI (rd + 1)), w1', w2'] [] G M := by
    intro S rd w1 w2 hS hSb
    -- the middle loop, with what the last local holds
    have mid : ∀ (r a T : Nat) (w : Value), a + r = n → T < 256 → (∀ j, T.testBit j = true → j < n) → ∃ w', z_ex 215 (z_blk 215 31) [.ref 455, .int (nI i), .int (nI T), .int (nI rd), .int (nI a), w] [] G M = z_ex 215 (z_blk 215 31) [.ref 455, .int (nI i), .int (nI (z_fd (fun a T => z_q1 (f_ed (M 458)) n a T) r a T)), .int (nI rd), .int (nI n), w'] [] G M := by
      intro r
      induction r with
      | zero => intro a T w e _ _; exact ⟨w, by rw [show a = n by omega]; rfl⟩
      | succ r ih =>
        intro a T w e hT hTb
        have hlt : nI a < nI n := nI_lt (by omega) (by omega)
        obtain ⟨_, _, _, q4⟩ := z_q1_p (ed := f_ed (M 458)) (a := a) (show a < n by omega) hTb
        obtain ⟨w', e'⟩ := ih (a + 1) (z_q1 (f_ed (M 458)) n a T) (.int (nI n)) (by omega) (z_bits8 hn q4) q4
        refine ⟨w', Eq.trans ?_ e'⟩
        have e3 := in3 a T rd w (by omega) hT hTb
        conv => lhs; rw [zk_M_setOf_31]
        simp (disch := first | assumption | exact kr _ rfl | omega | exact Nat.le_of_ble_eq_true rfl) only [xo_2_0, xo_0_1, xo_64_2, xk_v, xk_n, xo_48, xo_5, xo_54, xo_26, xo_55, xo_10_2i, xo_10_2r, xo_10_2n, xo_10_3i, xo_10_3r, xo_10_3n, xo_0_3, xo_17, xo_32, xo_45, xo_11_4i, xo_11_4r, xo_11_4n, xo_1_4, zk_M_setOf_42, xo_11_5i, xo_11_5r, xo_11_5n, xo_1_5, xo_0_2, xo_63_2, xo_49, xo_42, xo_64_3, xo_24, xo_15_5i, xo_15_5r, xo_15_5n, xo_15_4i, xo_15_4r, xo_15_4n, xo_15_3i, xo_15_3r, xo_15_3n, xo_70, nI_add, pk_mul, Nat.add_zero, z_sA_s, z_sA_sA, z_u_s, r9, h0, hlt, if_true, if_false, eq_self, Bool.true_eq_false, Bool.false_eq_true, and_true, true_and, and_false, false_and, or_true, true_or, or_false, false_or, ne_eq, not_true_eq_false, not_false_eq_true, decide_true, decide_false, z_sA_id, e3, zk_M_setOf_105, xo_15_4i, xo_15_4r, xo_15_4n, xo_54]
    obtain ⟨w', e'⟩ := mid n 0 S w2 (by omega) hS hSb
    refine ⟨.int (nI n), w', ?_⟩
    have e1 : z_ex 215 (z_blk 215 28) [.ref 455, .int (nI i), .int (nI S), .int (nI rd), w1, w2] [] G M = z_ex 215 (z_blk 215 31) [.ref 455, .int (nI i), .int (nI S), .int (nI rd), .int (nI 0), w2] [] G M := by
      simp only [xo_2_0, xo_0_1, xo_64_2, xk_v, xk_n, xo_48, xo_5, xo_54, xo_26, xo_55, xo_10_2i, xo_10_2r, xo_10_2n, xo_10_3i, xo_10_3r, xo_10_3n, xo_0_3, xo_17, xo_32, xo_45, zk_M_setOf_28, xo_11_4i, xo_11_4r, xo_11_4n, xo_1_4, xo_11_5i, xo_11_5r, xo_11_5n, xo_1_5, xo_0_2, xo_63_2, xo_49, xo_42, xo_64_3, xo_24, xo_15_5i, xo_15_5r, xo_15_5n, xo_15_4i, xo_15_4r, xo_15_4n, xo_15_3i, xo_15_3r, xo_15_3n, xo_70]
    rw [e1, e']
    conv => lhs; rw [zk_M_setOf_31]
    simp (disch := first | assumption | exact kr _ rfl | omega | exact Nat.le_of_ble_eq_true rfl) only [xo_2_0, xo_0_1, xo_64_2, xk_v, xk_n, xo_48, xo_5, xo_54, xo_26, xo_55, xo_10_2i, xo_10_2r, xo_10_2n, xo_10_3i, xo_10_3r, xo_10_3n, xo_0_3, xo_17, xo_32, xo_45, xo_11_4i, xo_11_4r, xo_11_4n, xo_1_4, xo_11_5i, xo_11_5r, xo_11_5n, xo_1_5, xo_0_2, xo_63_2, xo_49, xo_42, xo_64_3, xo_24, xo_15_5i, xo_15_5r, xo_15_5n, xo_15_4i, xo_15_4r, xo_15_4n, zk_M_setOf_111, xo_15_3i, xo_15_3r, xo_15_3n, xo_70, nI_add, pk_mul, Nat.add_zero, z_sA_s, z_sA_sA, z_u_s, r9, h0, hlt, if_true, if_false, eq_self, Bool.true_eq_false, Bool.false_eq_true, and_true, true_and, and_false, false_and, or_true, true_or, or_false, false_or, ne_eq, not_true_eq_false, not_false_eq_true, decide_true, decide_false, z_sA_id, z_q2]
  have out : ∀ (r rd S : Nat) (w1 w2 : Value), rd + r = n → (∀ j, S.testBit j = true → j < n) → z_ex 215 (z_blk 215 18) [.ref 455, .int (nI i), .int (nI S), .int (nI rd), w1, w2] [] G M = some (.inl (some (.int (nI (z_fd (fun _ S => z_q2 (f_ed (M 458)) n S) r rd S)))), G, M) := by
    intro r
    induction r with
    | zero =>
      intro rd S w1 w2 e _
      have hrd : rd = n := by omega
      subst hrd
      conv => lhs; rw [zk_M_setOf_18]
      simp (disch := first | assumption | exact kr _ rfl | omega | exact Nat.le_of_ble_eq_true rfl) only [xo_2_0, xo_0_1, xo_64_2, xk_v, xk_n, xo_48, xo_5, xo_54, xo_26, xo_55, xo_10_2i, xo_10_2r, xo_10_2n, xo_10_3i, xo_10_3r, xo_10_3n, xo_0_3, xo_17, xo_32, xo_45, xo_11_4i, xo_11_4r, xo_11_4n, xo_1_4, xo_11_5i, xo_11_5r, xo_11_5n, xo_1_5, xo_0_2, xo_63_2, xo_49, xo_42, xo_64_3, xo_24, xo_15_5i, xo_15_5r, xo_15_5n, xo_15_4i, xo_15_4r, xo_15_4n, xo_15_3i, xo_15_3r, xo_15_3n, zk_M_setOf_117, xo_70, nI_add, pk_mul, Nat.add_zero, z_sA_s, z_sA_sA, z_u_s, r9, h0, hlt, if_true, if_false, eq_self, Bool.true_eq_false, Bool.false_eq_true, and_true, true_and, and_false, false_and, or_true, true_or, or_false, false_or, ne_eq, not_true_eq_false, not_false_eq_true, decide_true, decide_false, z_sA_id, z_fd_0]
    | succ r ih =>
      intro rd S w1 w2 e hS
      have hlt : nI rd < nI n := nI_lt (by omega) (by omega)
      obtain ⟨w1', w2', e2⟩ := in2 S rd w1 w2 (z_bits8 hn hS) hS
      obtain ⟨_, _, _, q4⟩ := z_q2_op (f_ed (M 458)) n S hS
      rw [z_fd_s, ← ih (rd + 1) _ w1' w2' (by omega) q4, ← e2]
      conv => lhs; rw [zk_M_setOf_18]
      simp (disch := first | assumption | exact kr _ rfl | omega | exact Nat.le_of_ble_eq_true rfl) only [xo_2_0, xo_0_1, xo_64_2, xk_v, xk_n, xo_48, xo_5, xo_54, xo_26, xo_55, xo_10_2i, xo_10_2r, xo_10_2n, xo_10_3i, xo_10_3r, xo_10_3n, xo_0_3, xo_17, xo_32, xo_45, xo_11_4i, xo_11_4r, xo_11_4n, xo_1_4, xo_11_5i, xo_11_5r, xo_11_5n, xo_1_5, xo_0_2, xo_63_2, xo_49, xo_42, xo_64_3, xo_24, xo_15_5i, xo_15_5r, xo_15_5n, xo_15_4i, xo_15_4r, xo_15_4n, xo_15_3i, xo_15_3r, xo_15_3n, xo_70, nI_add, pk_mul, Nat.add_zero, z_sA_s, z_sA_sA, z_u_s, r9, h0, hlt, if_true, if_false, eq_self, Bool.true_eq_false, Bool.false_eq_true, and_true, true_and, and_false, false_and, or_true, true_or, or_false, false_or, ne_eq, not_true_eq_false, not_false_eq_true, decide_true, decide_false, z_sA_id]
  rw [e0, out n 0 (f_s0 (M 458) i) .null .null (by omega) (f_s0_b _ hi)]
  rfl
def z_al (P : Nat → Bool) : Nat → Nat → Bool
  | 0, _ => true
  | n + 1, k => P k && z_al P n (k + 1)
theorem z_al_s (P : Nat → Bool) (n k : Nat) : z_al P (n + 1) k = (P k && z_al P n (k + 1)) := rfl
theorem z_al_congr {P Q : Nat → Bool} : ∀ n k, (∀ j, k ≤ j → j < k + n → P j = Q j) → z_al P n k = z_al Q n k
  | 0, _, _ => rfl
  | n + 1, k, h => by
    unfold z_al
    rw [h k (Nat.le_refl _) (by omega), z_al_congr n (k + 1) (fun j h1 h2 => h j (by omega) (by omega))]
theorem z_al_and (P Q : Nat → Bool) : ∀ n k, z_al (fun j => P j && Q j) n k = (z_al P n k && z_al Q n k)
  | 0, _ => rfl
  | n + 1, k => by
    unfold z_al
    rw [z_al_and P Q n (k + 1)]
    cases P k <;> cases Q k <;> simp
def f_o1 (n : Nat) (s : Nat → Int32) (i : Nat) : Bool := decide (s (41 + 28 * i) = nI 2) || (decide (s (41 + 28 * i) = 0) && (decide (nI (f_ci n s i) = nI (f_so n s i)) && decide (s (41 + 28 * i + 4) = nI (f_so n s i))))
def f_one (n : Nat) (s : Nat → Int32) : Bool := z_al (f_o1 n s) n 0
theorem c_M_isOne {G : zG} (hM : z_HM G) (M : zM) {n : Nat} (h0 : M 458 0 = nI n) (hn : n ≤ 8) : z_call 216 [.ref 455] G M = some (.inl (some (.int (z_b (f_one n (M 458))))), G, M) := by
  obtain ⟨k0, ⟨r1, r8, r9, r10, r11, r12, r13, r17⟩, ⟨q1, q2⟩, ⟨q3, q4⟩, ⟨q5, q6⟩, ⟨q7, q8⟩, ⟨q9, q10⟩, ⟨q11, q12⟩, ⟨q13, q14⟩, ⟨q15, q16⟩, hp⟩ := id hM; have kr : ∀ a, z_rc a = 7 → z_kd G 455 = (0, z_rc a) := fun a h => (by rw [h]; exact k0)
  have e0 : z_call 216 [.ref 455] G M = z_ex 216 (z_blk 216 2) [.ref 455, .int (nI 0)] [] G M := by
    simp only [ze_M_isOne, zk_M_isOne_0, xo_5, xo_10_1i, xo_10_1r, xo_10_1n, xo_55, xo_0_1, xo_2_0, xo_17, xo_32, xo_45, xo_64_2, xk_v, xk_n, xo_49, xo_48, xo_43, xo_63_2, xo_42, xo_72a, xo_72b, xo_15_1i, xo_15_1r, xo_15_1n, xo_54]
  rw [e0]
  unfold f_one
  have e : ∀ r k, k + r = n → z_ex 216 (z_blk 216 2) [.ref 455, .int (nI k)] [] G M = some (.inl (some (.int (z_b (z_al (f_o1 n (M 458)) r k)))), G, M) := by
    intro r
    induction r with
    | zero =>
      intro k e
      have hlt : ¬ nI k < nI n := nI_nlt (by omega) (by omega)
      conv => lhs; rw [zk_M_isOne_2]
      simp (disch := first | assumption | exact kr _ rfl | omega | exact Nat.le_of_ble_eq_true rfl) only [xo_5, xo_10_1i, xo_10_1r, xo_10_1n, xo_55, xo_0_1, xo_2_0, xo_17, xo_32, xo_45, xo_64_2, xk_v, xk_n, xo_49, xo_48, xo_43, xo_63_2, xo_42, xo_72a, xo_72b, xo_15_1i, xo_15_1r, xo_15_1n, xo_54, zk_M_isOne_67, nI_add, pk_mul, Nat.add_zero, z_sA_s, z_sA_sA, z_u_s, r9, h0, hlt, if_true, if_false, eq_self, Bool.true_eq_false, Bool.false_eq_true, and_true, true_and, and_false, false_and, or_true, true_or, or_false, false_or, ne_eq, not_true_eq_false, not_false_eq_true, decide_true, decide_false, z_sA_id, z_al, z_bt]
    | succ r ih =>
      intro k e
      have hlt : nI k < nI n := nI_lt (by omega) (by omega)
      have ih1 := ih (k + 1) (by omega)
      have hci := c_M_circleOf hM M (i := k) h0 hn (by omega)
      have hso := c_M_setOf hM M (i := k) h0 hn (by omega)
      rw [z_al_s, show f_o1 n (M 458) k = (decide (M 458 (41 + 28 * k) = nI 2) || (decide (M 458 (41 + 28 * k) = 0) && (decide (nI (f_ci n (M 458) k) = nI (f_so n (M 458) k)) && decide (M 458 (41 + 28 * k + 4) = nI (f_so n (M 458) k))))) from rfl]
      by_cases hd : M 458 (41 + 28 * k) = nI 2
      · rw [decide_eq_true hd, Bool.true_or, Bool.true_and, ← ih1]
        conv => lhs; rw [zk_M_isOne_2]
        simp (disch := first | assumption | exact kr _ rfl | omega | exact Nat.le_of_ble_eq_true rfl) only [xo_5, xo_10_1i, xo_10_1r, xo_10_1n, xo_55, xo_0_1, xo_2_0, xo_17, xo_32, xo_45, zk_M_isOne_12, xo_64_2, xk_v, xk_n, xo_49, xo_48, xo_43, xo_63_2, xo_42, xo_72a, xo_72b, zk_M_isOne_61, xo_15_1i, xo_15_1r, xo_15_1n, xo_54, nI_add, pk_mul, Nat.add_zero, z_sA_s, z_sA_sA, z_u_s, r9, h0, hlt, zr_M_isDown, c_M_isDown hM, hd, z_b0, if_true, if_false, eq_self, Bool.true_eq_false, Bool.false_eq_true, and_true, true_and, and_false, false_and, or_true, true_or, or_false, false_or, ne_eq, not_true_eq_false, not_false_eq_true, decide_true, decide_false, z_sA_id]
      · rw [decide_eq_false hd, Bool.false_or]
        by_cases hN : M 458 (41 + 28 * k) = 0
        · rw [decide_eq_true hN, Bool.true_and]
          have hd' : ¬ (0 : Int32) = nI 2 := by decide
          by_cases h1 : nI (f_ci n (M 458) k) = nI (f_so n (M 458) k)
          · rw [decide_eq_true h1, Bool.true_and]
            by_cases h2 : M 458 (41 + 28 * k + 4) = nI (f_so n (M 458) k)
            · rw [decide_eq_true h2, Bool.true_and, ← ih1]
              conv => lhs; rw [zk_M_isOne_2]
              simp (disch := first | assumption | exact kr _ rfl | omega | exact Nat.le_of_ble_eq_true rfl) only [xo_5, xo_10_1i, xo_10_1r, xo_10_1n, xo_55, xo_0_1, xo_2_0, xo_17, xo_32, xo_45, zk_M_isOne_12, xo_64_2, xk_v, xk_n, xo_49, zk_M_isOne_20, xo_48, zk_M_isOne_28, xo_43, zk_M_isOne_41, xo_63_2, xo_42, xo_72a, xo_72b, zk_M_isOne_61, xo_15_1i, xo_15_1r, xo_15_1n, xo_54, nI_add, pk_mul, Nat.add_zero, z_sA_s, z_sA_sA, z_u_s, r9, c_M_m, h0, hlt, zr_M_isDown, c_M_isDown hM, hd', zr_M_isNormal, c_M_isNormal hM, hN, zr_M_circleOf, hci, zr_M_setOf, hso, h1, h2, z_b0, if_true, if_false, eq_self, Bool.true_eq_false, Bool.false_eq_true, and_true, true_and, and_false, false_and, or_true, true_or, or_false, false_or, ne_eq, not_true_eq_false, not_false_eq_true, decide_true, decide_false, z_sA_id]
            · rw [decide_eq_false h2, Bool.false_and]
              conv => lhs; rw [zk_M_isOne_2]
              simp (disch := first | assumption | exact kr _ rfl | omega | exact Nat.le_of_ble_eq_true rfl) only [xo_5, xo_10_1i, xo_10_1r, xo_10_1n, xo_55, xo_0_1, xo_2_0, xo_17, xo_32, xo_45, zk_M_isOne_12, xo_64_2, xk_v, xk_n, xo_49, zk_M_isOne_20, xo_48, zk_M_isOne_28, xo_43, zk_M_isOne_41, xo_63_2, xo_42, zk_M_isOne_59, xo_72a, xo_72b, xo_15_1i, xo_15_1r, xo_15_1n, xo_54, nI_add, pk_mul, Nat.add_zero, z_sA_s, z_sA_sA, z_u_s, r9, c_M_m, h0, hlt, zr_M_isDown, c_M_isDown hM, hd', zr_M_isNormal, c_M_isNormal hM, hN, zr_M_circleOf, hci, zr_M_setOf, hso, h1, h2, z_b0, if_true, if_false, eq_self, Bool.true_eq_false, Bool.false_eq_true, and_true, true_and, and_false, false_and, or_true, true_or, or_false, false_or, ne_eq, not_true_eq_false, not_false_eq_true, decide_true, decide_false, z_sA_id]
              rfl
          · rw [decide_eq_false h1, Bool.false_and, Bool.false_and]
            conv => lhs; rw [zk_M_isOne_2]
            simp (disch := first | assumption | exact kr _ rfl | omega | exact Nat.le_of_ble_eq_true rfl) only [xo_5, xo_10_1i, xo_10_1r, xo_10_1n, xo_55, xo_0_1, xo_2_0, xo_17, xo_32, xo_45, zk_M_isOne_12, xo_64_2, xk_v, xk_n, xo_49, zk_M_isOne_20, xo_48, zk_M_isOne_28, xo_43, xo_63_2, xo_42, zk_M_isOne_59, xo_72a, xo_72b, xo_15_1i, xo_15_1r, xo_15_1n, xo_54, nI_add, pk_mul, Nat.add_zero, z_sA_s, z_sA_sA, z_u_s, r9, h0, hlt, zr_M_isDown, c_M_isDown hM, hd', zr_M_isNormal, c_M_isNormal hM, hN, zr_M_circleOf, hci, zr_M_setOf, hso, h1, z_b0, if_true, if_false, eq_self, Bool.true_eq_false, Bool.false_eq_true, and_true, true_and, and_false, false_and, or_true, true_or, or_false, false_or, ne_eq, not_true_eq_false, not_false_eq_true, decide_true, decide_false, z_sA_id]
            rfl
        · rw [decide_eq_false hN, Bool.false_and, Bool.false_and]
          conv => lhs; rw [zk_M_isOne_2]
          simp (disch := first | assumption | exact kr _ rfl | omega | exact Nat.le_of_ble_eq_true rfl) only [xo_5, xo_10_1i, xo_10_1r, xo_10_1n, xo_55, xo_0_1, xo_2_0, xo_17, xo_32, xo_45, zk_M_isOne_12, xo_64_2, xk_v, xk_n, xo_49, zk_M_isOne_20, xo_48, xo_43, xo_63_2, xo_42, zk_M_isOne_59, xo_72a, xo_72b, xo_15_1i, xo_15_1r, xo_15_1n, xo_54, nI_add, pk_mul, Nat.add_zero, z_sA_s, z_sA_sA, z_u_s, r9, h0, hlt, zr_M_isDown, c_M_isDown hM, hd, zr_M_isNormal, c_M_isNormal hM, hN, z_b0, if_true, if_false, eq_self, Bool.true_eq_false, Bool.false_eq_true, and_true, true_and, and_false, false_and, or_true, true_or, or_false, false_or, ne_eq, not_true_eq_false, not_false_eq_true, decide_true, decide_false, z_sA_id]
          rfl
  exact e n 0 (by omega)
