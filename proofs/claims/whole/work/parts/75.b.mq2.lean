/-! ===== the reference's questions, second ===== -/
section
variable {G : zG} {n J B : Nat}
theorem m_link_f0 (hM : z_HM G) (M : zM) {x y : Int32} (hF : z_F n J B (M 458)) (hx : x < 0 ∨ ¬ x < nI n) : z_call 227 [.ref 455, .int x, .int y] G M = some (.inl (some (.int (nI 0))), G, rfm M 1 0) := by
  have e8 : th0 M 458 = M 458 := th0_o M (by omega)
  have hr := m_mem_f hM (th0 M) (n := n) (x := x) (by rw [e8]; exact hF.1.1.1) hF.1.1.2 (by have := hF.2.1; omega) hx
  have hb := bd_1 hM M (a := 1) (k := 0) (by omega) (by omega)
  obtain ⟨k0, ⟨r1, r8, r9, r10, r11, r12, r13, r17⟩, ⟨q1, q2⟩, ⟨q3, q4⟩, ⟨q5, q6⟩, ⟨q7, q8⟩, ⟨q9, q10⟩, ⟨q11, q12⟩, ⟨q13, q14⟩, ⟨q15, q16⟩, hp⟩ := id hM; have kr : ∀ a, z_rc a = 7 → z_kd G 455 = (0, z_rc a) := fun a h => (by rw [h]; exact k0)
  simp (disch := first | assumption | exact kr _ rfl | omega | exact Nat.le_of_ble_eq_true rfl) only [ze_M_link, zk_M_link_0, xo_2_0, xo_5, xo_18, xo_0_1, xo_64_2, xk_v, xk_n, xo_48, xo_0_2, xo_49, zk_M_link_22, xo_54, xo_55, zk_M_link_27, xo_64_4, xo_43, zk_M_link_54, xo_72a, xo_72b, xo_64_3, th0_f, hr, hb, one0, zer0, xo_72a, if_true, if_false, eq_self, Bool.true_eq_false, Bool.false_eq_true, and_true, true_and, and_false, false_and, or_true, true_or, or_false, false_or, ne_eq, not_true_eq_false, not_false_eq_true, decide_true, decide_false, z_sA_id]
theorem m_link_f1 (hM : z_HM G) (M : zM) {i : Nat} {y : Int32} (hF : z_F n J B (M 458)) (hi : i < n) (hx : y < 0 ∨ ¬ y < nI n) : z_call 227 [.ref 455, .int (nI i), .int y] G M = some (.inl (some (.int (nI 0))), G, rfm M 1 0) := by
  have e8 : th0 M 458 = M 458 := th0_o M (by omega)
  have hr0 := m_mem_t hM (th0 M) (n := n) (i := i) (by rw [e8]; exact hF.1.1.1) hF.1.1.2 hi
  have hr := m_mem_f hM (th0 M) (n := n) (x := y) (by rw [e8]; exact hF.1.1.1) hF.1.1.2 (by have := hF.2.1; omega) hx
  have hb := bd_1 hM M (a := 1) (k := 0) (by omega) (by omega)
  obtain ⟨k0, ⟨r1, r8, r9, r10, r11, r12, r13, r17⟩, ⟨q1, q2⟩, ⟨q3, q4⟩, ⟨q5, q6⟩, ⟨q7, q8⟩, ⟨q9, q10⟩, ⟨q11, q12⟩, ⟨q13, q14⟩, ⟨q15, q16⟩, hp⟩ := id hM; have kr : ∀ a, z_rc a = 7 → z_kd G 455 = (0, z_rc a) := fun a h => (by rw [h]; exact k0)
  simp (disch := first | assumption | exact kr _ rfl | omega | exact Nat.le_of_ble_eq_true rfl) only [ze_M_link, zk_M_link_0, xo_2_0, xo_5, xo_18, xo_0_1, xo_64_2, xk_v, xk_n, xo_48, zk_M_link_14, xo_0_2, xo_49, zk_M_link_22, xo_54, xo_55, zk_M_link_27, xo_64_4, xo_43, zk_M_link_54, xo_72a, xo_72b, xo_64_3, th0_f, hr0, hr, hb, one0, zer0, xo_72a, if_true, if_false, eq_self, Bool.true_eq_false, Bool.false_eq_true, and_true, true_and, and_false, false_and, or_true, true_or, or_false, false_or, ne_eq, not_true_eq_false, not_false_eq_true, decide_true, decide_false, z_sA_id]
theorem m_link_f2 (hM : z_HM G) (M : zM) {i : Nat} (hF : z_F n J B (M 458)) (hi : i < n) : z_call 227 [.ref 455, .int (nI i), .int (nI i)] G M = some (.inl (some (.int (nI 0))), G, rfm M 2 1) := by
  have e8 : th0 M 458 = M 458 := th0_o M (by omega)
  have hr0 := m_mem_t hM (th0 M) (n := n) (i := i) (by rw [e8]; exact hF.1.1.1) hF.1.1.2 hi
  have hb0 := bd_0 hM M (nI 1) (nI 0)
  have hb := bd_1 hM M (a := 2) (k := 1) (by omega) (by omega)
  obtain ⟨k0, ⟨r1, r8, r9, r10, r11, r12, r13, r17⟩, ⟨q1, q2⟩, ⟨q3, q4⟩, ⟨q5, q6⟩, ⟨q7, q8⟩, ⟨q9, q10⟩, ⟨q11, q12⟩, ⟨q13, q14⟩, ⟨q15, q16⟩, hp⟩ := id hM; have kr : ∀ a, z_rc a = 7 → z_kd G 455 = (0, z_rc a) := fun a h => (by rw [h]; exact k0)
  simp (disch := first | assumption | exact kr _ rfl | omega | exact Nat.le_of_ble_eq_true rfl) only [ze_M_link, zk_M_link_0, xo_2_0, xo_5, xo_18, xo_0_1, xo_64_2, xk_v, xk_n, xo_48, zk_M_link_14, xo_0_2, xo_49, xo_54, zk_M_link_26, xo_55, zk_M_link_27, xo_64_4, zk_M_link_35, xo_43, zk_M_link_41, zk_M_link_46, zk_M_link_54, xo_72a, xo_72b, xo_64_3, th0_f, hr0, hb0, hb, one0, zer0, xo_72a, if_true, if_false, eq_self, Bool.true_eq_false, Bool.false_eq_true, and_true, true_and, and_false, false_and, or_true, true_or, or_false, false_or, ne_eq, not_true_eq_false, not_false_eq_true, decide_true, decide_false, z_sA_id]
theorem m_link (hM : z_HM G) (M : zM) {i j : Nat} (hF : z_F n J B (M 458)) (hi : i < n) (hj : j < n) (ne : i ≠ j) : z_call 227 [.ref 455, .int (nI i), .int (nI j)] G M = some (.inl (some (.int (z_b (!zf_has (M 458 (25 + i)) (nI j))))), G, th0 M) := by
  have e8 : th0 M 458 = M 458 := th0_o M (by omega)
  have hn := hF.1.1.2
  have hr0 := m_mem_t hM (th0 M) (n := n) (i := i) (by rw [e8]; exact hF.1.1.1) hF.1.1.2 hi
  have hr1 := m_mem_t hM (th0 M) (n := n) (i := j) (by rw [e8]; exact hF.1.1.1) hF.1.1.2 hj
  have hb0 := bd_0 hM M (nI 1) (nI 0)
  have hb := bd_0 hM M (nI 2) (nI 1)
  have hne : (nI i = nI j) = False := eq_false (fun q => ne ((nI_eq (by omega) (by omega)).mp q))
  have w := c_M_isWhole hM (th0 M) (i := i) (by omega) (nI j)
  rw [e8] at w
  obtain ⟨k0, ⟨r1, r8, r9, r10, r11, r12, r13, r17⟩, ⟨q1, q2⟩, ⟨q3, q4⟩, ⟨q5, q6⟩, ⟨q7, q8⟩, ⟨q9, q10⟩, ⟨q11, q12⟩, ⟨q13, q14⟩, ⟨q15, q16⟩, hp⟩ := id hM; have kr : ∀ a, z_rc a = 7 → z_kd G 455 = (0, z_rc a) := fun a h => (by rw [h]; exact k0)
  simp (disch := first | assumption | exact kr _ rfl | omega | exact Nat.le_of_ble_eq_true rfl) only [ze_M_link, zk_M_link_0, xo_2_0, xo_5, xo_18, xo_0_1, xo_64_2, xk_v, xk_n, xo_48, zk_M_link_14, xo_0_2, xo_49, xo_54, zk_M_link_26, xo_55, zk_M_link_27, xo_64_4, zk_M_link_35, xo_43, zk_M_link_45, zk_M_link_46, xo_72a, xo_72b, zk_M_link_56, xo_64_3, th0_f, hr0, hr1, hb0, hb, one0, zer0, hne, w, xo_72z, if_true, if_false, eq_self, Bool.true_eq_false, Bool.false_eq_true, and_true, true_and, and_false, false_and, or_true, true_or, or_false, false_or, ne_eq, not_true_eq_false, not_false_eq_true, decide_true, decide_false, z_sA_id]
theorem m_letter_f0 (hM : z_HM G) (M : zM) {x w : Int32} {m : Nat} (h8 : M 458 8 = nI m) (hm : m ≤ 300) (hx : x < 0 ∨ ¬ x < nI m) : z_call 228 [.ref 455, .int x, .int w] G M = some (.inl (some (.int (nI 0))), G, rfm M 1 0) := by
  have e8 : th0 M 458 = M 458 := th0_o M (by omega)
  have ht : zf_in x (nI 0) (nI m - nI 1) = false := by
    by_cases h0 : m = 0
    · subst h0
      unfold zf_in
      refine decide_eq_false (fun q => ?_)
      obtain ⟨q1, q2⟩ := q
      rw [nI_0] at q1
      obtain ⟨j, hj, e⟩ := nI_of q1
      subst e
      refine q2 ?_
      rw [show nI 0 - nI 1 = -1 by decide]
      rw [Int32.lt_iff_toInt_lt, nI_toInt hj]
      have : (-1 : Int32).toInt = -1 := by decide
      omega
    · rw [nI_p1 (by omega)]
      exact in_f (by omega) (by rw [show m - 1 + 1 = m by omega]; exact hx)
  have hb := bd_1 hM M (a := 1) (k := 0) (by omega) (by omega)
  obtain ⟨k0, ⟨r1, r8, r9, r10, r11, r12, r13, r17⟩, ⟨q1, q2⟩, ⟨q3, q4⟩, ⟨q5, q6⟩, ⟨q7, q8⟩, ⟨q9, q10⟩, ⟨q11, q12⟩, ⟨q13, q14⟩, ⟨q15, q16⟩, hp⟩ := id hM; have kr : ∀ a, z_rc a = 7 → z_kd G 455 = (0, z_rc a) := fun a h => (by rw [h]; exact k0)
  simp (disch := first | assumption | exact kr _ rfl | omega | exact Nat.le_of_ble_eq_true rfl) only [ze_M_letter, zk_M_letter_0, xo_2_0, xo_5, xo_18, xo_0_1, xo_17, xo_6, xo_32, xo_21, xo_63_3, xk_v, xk_n, xo_49, zk_M_letter_23, xo_54, xo_55, zk_M_letter_28, xo_64_4, xo_0_2, xo_48, zk_M_letter_60, xo_70, xo_7, xo_22, xo_20, xo_10_3i, xo_10_3r, xo_10_3n, xo_43, xo_0_3, th0_f, e8, r9, h8, c_M_in, ht, z_b0, hb, one0, zer0, if_true, if_false, eq_self, Bool.true_eq_false, Bool.false_eq_true, and_true, true_and, and_false, false_and, or_true, true_or, or_false, false_or, ne_eq, not_true_eq_false, not_false_eq_true, decide_true, decide_false, z_sA_id]
theorem m_letter_f1 (hM : z_HM G) (M : zM) {k : Nat} {w : Int32} {m : Nat} (h8 : M 458 8 = nI m) (hm : m ≤ 300) (hk : k < m) (hx : w < 0 ∨ ¬ w < nI 7) : z_call 228 [.ref 455, .int (nI k), .int w] G M = some (.inl (some (.int (nI 0))), G, rfm M 2 1) := by
  have e8 : th0 M 458 = M 458 := th0_o M (by omega)
  have hp1 := nI_p1 (n := m) (by omega)
  have ht := in_t (i := k) (k := m - 1) (by omega) (by omega)
  have ht2 := in_f (x := w) (k := 6) (by omega) hx
  have hb0 := bd_0 hM M (nI 1) (nI 0)
  have hb := bd_1 hM M (a := 2) (k := 1) (by omega) (by omega)
  obtain ⟨k0, ⟨r1, r8, r9, r10, r11, r12, r13, r17⟩, ⟨q1, q2⟩, ⟨q3, q4⟩, ⟨q5, q6⟩, ⟨q7, q8⟩, ⟨q9, q10⟩, ⟨q11, q12⟩, ⟨q13, q14⟩, ⟨q15, q16⟩, hp⟩ := id hM; have kr : ∀ a, z_rc a = 7 → z_kd G 455 = (0, z_rc a) := fun a h => (by rw [h]; exact k0)
  simp (disch := first | assumption | exact kr _ rfl | omega | exact Nat.le_of_ble_eq_true rfl) only [ze_M_letter, zk_M_letter_0, xo_2_0, xo_5, xo_18, xo_0_1, xo_17, xo_6, xo_32, xo_21, xo_63_3, xk_v, xk_n, xo_49, xo_54, zk_M_letter_27, xo_55, zk_M_letter_28, xo_64_4, zk_M_letter_36, xo_0_2, zk_M_letter_47, zk_M_letter_52, xo_48, zk_M_letter_60, xo_70, xo_7, xo_22, xo_20, xo_10_3i, xo_10_3r, xo_10_3n, xo_43, xo_0_3, th0_f, e8, r9, h8, hp1, c_M_in, ht, ht2, z_b0, hb0, hb, one0, zer0, if_true, if_false, eq_self, Bool.true_eq_false, Bool.false_eq_true, and_true, true_and, and_false, false_and, or_true, true_or, or_false, false_or, ne_eq, not_true_eq_false, not_false_eq_true, decide_true, decide_false, z_sA_id]
theorem m_letter (hM : z_HM G) (M : zM) {k w : Nat} {m : Nat} (h8 : M 458 8 = nI m) (hm : m ≤ 300) (hk : k < m) (hw : w < 7) : z_call 228 [.ref 455, .int (nI k), .int (nI w)] G M = some (.inl (some (.int (q_let (M 458) k w))), G, th0 M) := by
  have e8 : th0 M 458 = M 458 := th0_o M (by omega)
  have hp1 := nI_p1 (n := m) (by omega)
  have ht := in_t (i := k) (k := m - 1) (by omega) (by omega)
  have ht2 := in_t (i := w) (k := 6) (by omega) (by omega)
  have hb0 := bd_0 hM M (nI 1) (nI 0)
  have hb := bd_0 hM M (nI 2) (nI 1)
  obtain ⟨k0, ⟨r1, r8, r9, r10, r11, r12, r13, r17⟩, ⟨q1, q2⟩, ⟨q3, q4⟩, ⟨q5, q6⟩, ⟨q7, q8⟩, ⟨q9, q10⟩, ⟨q11, q12⟩, ⟨q13, q14⟩, ⟨q15, q16⟩, hp⟩ := id hM; have kr : ∀ a, z_rc a = 7 → z_kd G 455 = (0, z_rc a) := fun a h => (by rw [h]; exact k0)
  unfold q_let
  by_cases h3 : w = 3
  · subst h3
    simp (disch := first | assumption | exact kr _ rfl | omega | exact Nat.le_of_ble_eq_true rfl) only [ze_M_letter, zk_M_letter_0, xo_2_0, xo_5, xo_18, xo_0_1, xo_17, xo_6, xo_32, xo_21, xo_63_3, xk_v, xk_n, xo_49, xo_54, zk_M_letter_27, xo_55, zk_M_letter_28, xo_64_4, zk_M_letter_36, xo_0_2, zk_M_letter_51, zk_M_letter_52, xo_48, xo_70, zk_M_letter_62, xo_7, xo_22, xo_20, xo_10_3i, xo_10_3r, xo_10_3n, xo_43, zk_M_letter_76, xo_0_3, zk_M_letter_103, th0_f, nI_add, pk_mul, Nat.add_zero, z_sA_s, z_sA_sA, z_u_s, e8, r9, h8, hp1, c_M_in, ht, ht2, z_b0, hb0, hb, one0, zer0, if_true, if_false, eq_self, Bool.true_eq_false, Bool.false_eq_true, and_true, true_and, and_false, false_and, or_true, true_or, or_false, false_or, ne_eq, not_true_eq_false, not_false_eq_true, decide_true, decide_false, z_sA_id]
  · have hne : (nI w = nI 3) = False := eq_false (fun q => h3 ((nI_eq (by omega) (by omega)).mp q))
    simp (disch := first | assumption | exact kr _ rfl | omega | exact Nat.le_of_ble_eq_true rfl) only [ze_M_letter, zk_M_letter_0, xo_2_0, xo_5, xo_18, xo_0_1, xo_17, xo_6, xo_32, xo_21, xo_63_3, xk_v, xk_n, xo_49, xo_54, zk_M_letter_27, xo_55, zk_M_letter_28, xo_64_4, zk_M_letter_36, xo_0_2, zk_M_letter_51, zk_M_letter_52, xo_48, xo_70, zk_M_letter_62, xo_7, xo_22, xo_20, xo_10_3i, xo_10_3r, xo_10_3n, xo_43, xo_0_3, zk_M_letter_95, zk_M_letter_103, th0_f, nI_add, pk_mul, Nat.add_zero, z_sA_s, z_sA_sA, z_u_s, e8, r9, h8, hp1, c_M_in, ht, ht2, z_b0, hb0, hb, one0, zer0, hne, h3, if_true, if_false, eq_self, Bool.true_eq_false, Bool.false_eq_true, and_true, true_and, and_false, false_and, or_true, true_or, or_false, false_or, ne_eq, not_true_eq_false, not_false_eq_true, decide_true, decide_false, z_sA_id]
theorem m_sent_f (hM : z_HM G) (M : zM) {x w : Int32} (hx : (x < 0 ∨ ¬ x < nI 8) ∨ (w < 0 ∨ ¬ w < nI 2)) : z_call 229 [.ref 455, .int x, .int w] G M = some (.inl (some (.int (nI 0))), G, rfm M 1 1) := by
  have hb := bd_1 hM M (a := 1) (k := 1) (by omega) (by omega)
  obtain ⟨k0, ⟨r1, r8, r9, r10, r11, r12, r13, r17⟩, ⟨q1, q2⟩, ⟨q3, q4⟩, ⟨q5, q6⟩, ⟨q7, q8⟩, ⟨q9, q10⟩, ⟨q11, q12⟩, ⟨q13, q14⟩, ⟨q15, q16⟩, hp⟩ := id hM; have kr : ∀ a, z_rc a = 7 → z_kd G 455 = (0, z_rc a) := fun a h => (by rw [h]; exact k0)
  cases ht : zf_in x (nI 0) (nI 7)
  · simp (disch := first | assumption | exact kr _ rfl | omega | exact Nat.le_of_ble_eq_true rfl) only [ze_M_sent, zk_M_sent_0, xo_2_0, xo_5, xo_18, xo_0_1, xo_6, xo_63_3, xk_v, xk_n, xo_48, xo_0_2, xo_49, zk_M_sent_25, xo_54, xo_55, zk_M_sent_30, xo_64_4, zk_M_sent_38, xo_70, xo_17, xo_20, xo_32, th0_f, c_M_in, ht, z_b0, hb, one0, zer0, if_true, if_false, eq_self, Bool.true_eq_false, Bool.false_eq_true, and_true, true_and, and_false, false_and, or_true, true_or, or_false, false_or, ne_eq, not_true_eq_false, not_false_eq_true, decide_true, decide_false, z_sA_id]
  · have hw : zf_in w (nI 0) (nI 1) = false := by
      rcases hx with hx | hx
      · rw [in_f (by omega) hx] at ht; exact absurd ht (by decide)
      · exact in_f (by omega) hx
    simp (disch := first | assumption | exact kr _ rfl | omega | exact Nat.le_of_ble_eq_true rfl) only [ze_M_sent, zk_M_sent_0, xo_2_0, xo_5, xo_18, xo_0_1, xo_6, xo_63_3, xk_v, xk_n, xo_48, zk_M_sent_16, xo_0_2, xo_49, zk_M_sent_25, xo_54, xo_55, zk_M_sent_30, xo_64_4, zk_M_sent_38, xo_70, xo_17, xo_20, xo_32, th0_f, c_M_in, ht, hw, z_b0, hb, one0, zer0, if_true, if_false, eq_self, Bool.true_eq_false, Bool.false_eq_true, and_true, true_and, and_false, false_and, or_true, true_or, or_false, false_or, ne_eq, not_true_eq_false, not_false_eq_true, decide_true, decide_false, z_sA_id]
theorem m_sent (hM : z_HM G) (M : zM) {k w : Nat} (hk : k < 8) (hw : w < 2) : z_call 229 [.ref 455, .int (nI k), .int (nI w)] G M = some (.inl (some (.int (M 458 ((if w = 0 then 9 else 17) + k)))), G, th0 M) := by
  have e8 : th0 M 458 = M 458 := th0_o M (by omega)
  have ht := in_t (i := k) (k := 7) (by omega) (by omega)
  have ht2 := in_t (i := w) (k := 1) (by omega) (by omega)
  have hb := bd_0 hM M (nI 1) (nI 1)
  obtain ⟨k0, ⟨r1, r8, r9, r10, r11, r12, r13, r17⟩, ⟨q1, q2⟩, ⟨q3, q4⟩, ⟨q5, q6⟩, ⟨q7, q8⟩, ⟨q9, q10⟩, ⟨q11, q12⟩, ⟨q13, q14⟩, ⟨q15, q16⟩, hp⟩ := id hM; have kr : ∀ a, z_rc a = 7 → z_kd G 455 = (0, z_rc a) := fun a h => (by rw [h]; exact k0)
  match w, hw with
  | 0, _ => simp (disch := first | assumption | exact kr _ rfl | omega | exact Nat.le_of_ble_eq_true rfl) only [ze_M_sent, zk_M_sent_0, xo_2_0, xo_5, xo_18, xo_0_1, xo_6, xo_63_3, xk_v, xk_n, xo_48, zk_M_sent_16, xo_0_2, xo_49, xo_54, zk_M_sent_29, xo_55, zk_M_sent_30, xo_64_4, xo_70, zk_M_sent_40, xo_17, zk_M_sent_48, zk_M_sent_55, xo_20, xo_32, th0_f, nI_add, pk_mul, Nat.add_zero, z_sA_s, z_sA_sA, z_u_s, e8, r9, c_M_in, ht, ht2, z_b0, hb, one0, zer0, if_true, if_false, eq_self, Bool.true_eq_false, Bool.false_eq_true, and_true, true_and, and_false, false_and, or_true, true_or, or_false, false_or, ne_eq, not_true_eq_false, not_false_eq_true, decide_true, decide_false, z_sA_id]
  | 1, _ => simp (disch := first | assumption | exact kr _ rfl | omega | exact Nat.le_of_ble_eq_true rfl) only [ze_M_sent, zk_M_sent_0, xo_2_0, xo_5, xo_18, xo_0_1, xo_6, xo_63_3, xk_v, xk_n, xo_48, zk_M_sent_16, xo_0_2, xo_49, xo_54, zk_M_sent_29, xo_55, zk_M_sent_30, xo_64_4, xo_70, zk_M_sent_40, xo_17, zk_M_sent_53, zk_M_sent_55, xo_20, xo_32, th0_f, nI_add, pk_mul, Nat.add_zero, z_sA_s, z_sA_sA, z_u_s, e8, r9, c_M_in, ht, ht2, z_b0, hb, one0, zer0, Nat.one_ne_zero, if_true, if_false, eq_self, Bool.true_eq_false, Bool.false_eq_true, and_true, true_and, and_false, false_and, or_true, true_or, or_false, false_or, ne_eq, not_true_eq_false, not_false_eq_true, decide_true, decide_false, z_sA_id]
  | k + 2, h => exact absurd h (by omega)
theorem m_tally_f0 (hM : z_HM G) (M : zM) {x w : Int32} (hF : z_F n J B (M 458)) (hx : x < 0 ∨ ¬ x < nI n) : z_call 230 [.ref 455, .int x, .int w] G M = some (.inl (some (.int (nI 0))), G, rfm M 1 0) := by
  have e8 : th0 M 458 = M 458 := th0_o M (by omega)
  have hr := m_mem_f hM (th0 M) (n := n) (x := x) (by rw [e8]; exact hF.1.1.1) hF.1.1.2 (by have := hF.2.1; omega) hx
  have hb := bd_1 hM M (a := 1) (k := 0) (by omega) (by omega)
  obtain ⟨k0, ⟨r1, r8, r9, r10, r11, r12, r13, r17⟩, ⟨q1, q2⟩, ⟨q3, q4⟩, ⟨q5, q6⟩, ⟨q7, q8⟩, ⟨q9, q10⟩, ⟨q11, q12⟩, ⟨q13, q14⟩, ⟨q15, q16⟩, hp⟩ := id hM; have kr : ∀ a, z_rc a = 7 → z_kd G 455 = (0, z_rc a) := fun a h => (by rw [h]; exact k0)
  simp (disch := first | assumption | exact kr _ rfl | omega | exact Nat.le_of_ble_eq_true rfl) only [ze_M_tally, zk_M_tally_0, xo_2_0, xo_5, xo_18, xo_0_1, xo_64_2, xk_v, xk_n, xo_49, zk_M_tally_14, xo_54, xo_55, zk_M_tally_19, xo_64_4, xo_0_2, xo_6, xo_63_3, xo_48, zk_M_tally_51, xo_70, xo_17, xo_20, xo_63_2, xo_32, th0_f, hr, hb, one0, zer0, if_true, if_false, eq_self, Bool.true_eq_false, Bool.false_eq_true, and_true, true_and, and_false, false_and, or_true, true_or, or_false, false_or, ne_eq, not_true_eq_false, not_false_eq_true, decide_true, decide_false, z_sA_id]
theorem m_tally_f1 (hM : z_HM G) (M : zM) {i : Nat} {w : Int32} (hF : z_F n J B (M 458)) (hi : i < n) (hx : w < 0 ∨ ¬ w < nI 7) : z_call 230 [.ref 455, .int (nI i), .int w] G M = some (.inl (some (.int (nI 0))), G, rfm M 2 1) := by
  have e8 : th0 M 458 = M 458 := th0_o M (by omega)
  have hr := m_mem_t hM (th0 M) (n := n) (i := i) (by rw [e8]; exact hF.1.1.1) hF.1.1.2 hi
  have ht := in_f (x := w) (k := 6) (by omega) hx
  have hb0 := bd_0 hM M (nI 1) (nI 0)
  have hb := bd_1 hM M (a := 2) (k := 1) (by omega) (by omega)
  obtain ⟨k0, ⟨r1, r8, r9, r10, r11, r12, r13, r17⟩, ⟨q1, q2⟩, ⟨q3, q4⟩, ⟨q5, q6⟩, ⟨q7, q8⟩, ⟨q9, q10⟩, ⟨q11, q12⟩, ⟨q13, q14⟩, ⟨q15, q16⟩, hp⟩ := id hM; have kr : ∀ a, z_rc a = 7 → z_kd G 455 = (0, z_rc a) := fun a h => (by rw [h]; exact k0)
  simp (disch := first | assumption | exact kr _ rfl | omega | exact Nat.le_of_ble_eq_true rfl) only [ze_M_tally, zk_M_tally_0, xo_2_0, xo_5, xo_18, xo_0_1, xo_64_2, xk_v, xk_n, xo_49, xo_54, zk_M_tally_18, xo_55, zk_M_tally_19, xo_64_4, zk_M_tally_27, xo_0_2, xo_6, xo_63_3, zk_M_tally_38, zk_M_tally_43, xo_48, zk_M_tally_51, xo_70, xo_17, xo_20, xo_63_2, xo_32, th0_f, hr, hb0, hb, c_M_in, ht, z_b0, one0, zer0, if_true, if_false, eq_self, Bool.true_eq_false, Bool.false_eq_true, and_true, true_and, and_false, false_and, or_true, true_or, or_false, false_or, ne_eq, not_true_eq_false, not_false_eq_true, decide_true, decide_false, z_sA_id]
theorem m_tally (hM : z_HM G) (M : zM) {i k : Nat} (hF : z_F n J B (M 458)) (hi : i < n) (hk : k < 7) : z_call 230 [.ref 455, .int (nI i), .int (nI k)] G M = some (.inl (some (.int (M 458 (41 + 28 * i + (21 + k))))), G, th0 M) := by
  have e8 : th0 M 458 = M 458 := th0_o M (by omega)
  have hn := hF.1.1.2
  have hr := m_mem_t hM (th0 M) (n := n) (i := i) (by rw [e8]; exact hF.1.1.1) hF.1.1.2 hi
  have ht := in_t (i := k) (k := 6) (by omega) (by omega)
  have hb0 := bd_0 hM M (nI 1) (nI 0)
  have hb := bd_0 hM M (nI 2) (nI 1)
  obtain ⟨k0, ⟨r1, r8, r9, r10, r11, r12, r13, r17⟩, ⟨q1, q2⟩, ⟨q3, q4⟩, ⟨q5, q6⟩, ⟨q7, q8⟩, ⟨q9, q10⟩, ⟨q11, q12⟩, ⟨q13, q14⟩, ⟨q15, q16⟩, hp⟩ := id hM; have kr : ∀ a, z_rc a = 7 → z_kd G 455 = (0, z_rc a) := fun a h => (by rw [h]; exact k0)
  simp (disch := first | assumption | exact kr _ rfl | omega | exact Nat.le_of_ble_eq_true rfl) only [ze_M_tally, zk_M_tally_0, xo_2_0, xo_5, xo_18, xo_0_1, xo_64_2, xk_v, xk_n, xo_49, xo_54, zk_M_tally_18, xo_55, zk_M_tally_19, xo_64_4, zk_M_tally_27, xo_0_2, xo_6, xo_63_3, zk_M_tally_42, zk_M_tally_43, xo_48, xo_70, zk_M_tally_53, xo_17, xo_20, xo_63_2, xo_32, th0_f, nI_add, pk_mul, Nat.add_zero, z_sA_s, z_sA_sA, z_u_s, e8, r9, hr, hb0, hb, c_M_in, ht, z_b0, one0, zer0, c_M_m, if_true, if_false, eq_self, Bool.true_eq_false, Bool.false_eq_true, and_true, true_and, and_false, false_and, or_true, true_or, or_false, false_or, ne_eq, not_true_eq_false, not_false_eq_true, decide_true, decide_false, z_sA_id]
theorem m_change_f0 (hM : z_HM G) (M : zM) {x w : Int32} {m : Nat} (h8 : M 458 4165 = nI m) (hm : m ≤ 300) (hx : x < 0 ∨ ¬ x < nI m) : z_call 231 [.ref 455, .int x, .int w] G M = some (.inl (some (.int (nI 0))), G, rfm M 1 0) := by
  have e8 : th0 M 458 = M 458 := th0_o M (by omega)
  have ht : zf_in x (nI 0) (nI m - nI 1) = false := by
    by_cases h0 : m = 0
    · subst h0
      unfold zf_in
      refine decide_eq_false (fun q => ?_)
      obtain ⟨q1, q2⟩ := q
      rw [nI_0] at q1
      obtain ⟨j, hj, e⟩ := nI_of q1
      subst e
      refine q2 ?_
      rw [show nI 0 - nI 1 = -1 by decide]
      rw [Int32.lt_iff_toInt_lt, nI_toInt hj]
      have : (-1 : Int32).toInt = -1 := by decide
      omega
    · rw [nI_p1 (by omega)]
      exact in_f (by omega) (by rw [show m - 1 + 1 = m by omega]; exact hx)
  have hb := bd_1 hM M (a := 1) (k := 0) (by omega) (by omega)
  obtain ⟨k0, ⟨r1, r8, r9, r10, r11, r12, r13, r17⟩, ⟨q1, q2⟩, ⟨q3, q4⟩, ⟨q5, q6⟩, ⟨q7, q8⟩, ⟨q9, q10⟩, ⟨q11, q12⟩, ⟨q13, q14⟩, ⟨q15, q16⟩, hp⟩ := id hM; have kr : ∀ a, z_rc a = 7 → z_kd G 455 = (0, z_rc a) := fun a h => (by rw [h]; exact k0)
  simp (disch := first | assumption | exact kr _ rfl | omega | exact Nat.le_of_ble_eq_true rfl) only [ze_M_change, zk_M_change_0, xo_2_0, xo_5, xo_18, xo_0_1, xo_17, xo_7, xo_32, xo_21, xo_63_3, xk_v, xk_n, xo_49, zk_M_change_24, xo_54, xo_55, zk_M_change_29, xo_64_4, xo_0_2, xo_48, zk_M_change_60, xo_70, xo_22, xo_20, th0_f, e8, r9, h8, c_M_in, ht, z_b0, hb, one0, zer0, if_true, if_false, eq_self, Bool.true_eq_false, Bool.false_eq_true, and_true, true_and, and_false, false_and, or_true, true_or, or_false, false_or, ne_eq, not_true_eq_false, not_false_eq_true, decide_true, decide_false, z_sA_id]
theorem m_change_f1 (hM : z_HM G) (M : zM) {k : Nat} {w : Int32} {m : Nat} (h8 : M 458 4165 = nI m) (hm : m ≤ 40) (hk : k < m) (hx : w < 0 ∨ ¬ w < nI 4) : z_call 231 [.ref 455, .int (nI k), .int w] G M = some (.inl (some (.int (nI 0))), G, rfm M 2 1) := by
  have e8 : th0 M 458 = M 458 := th0_o M (by omega)
  have hp1 := nI_p1 (n := m) (by omega)
  have ht := in_t (i := k) (k := m - 1) (by omega) (by omega)
  have ht2 := in_f (x := w) (k := 3) (by omega) hx
  have hb0 := bd_0 hM M (nI 1) (nI 0)
  have hb := bd_1 hM M (a := 2) (k := 1) (by omega) (by omega)
  obtain ⟨k0, ⟨r1, r8, r9, r10, r11, r12, r13, r17⟩, ⟨q1, q2⟩, ⟨q3, q4⟩, ⟨q5, q6⟩, ⟨q7, q8⟩, ⟨q9, q10⟩, ⟨q11, q12⟩, ⟨q13, q14⟩, ⟨q15, q16⟩, hp⟩ := id hM; have kr : ∀ a, z_rc a = 7 → z_kd G 455 = (0, z_rc a) := fun a h => (by rw [h]; exact k0)
  simp (disch := first | assumption | exact kr _ rfl | omega | exact Nat.le_of_ble_eq_true rfl) only [ze_M_change, zk_M_change_0, xo_2_0, xo_5, xo_18, xo_0_1, xo_17, xo_7, xo_32, xo_21, xo_63_3, xk_v, xk_n, xo_49, xo_54, zk_M_change_28, xo_55, zk_M_change_29, xo_64_4, zk_M_change_37, xo_0_2, zk_M_change_47, zk_M_change_52, xo_48, zk_M_change_60, xo_70, xo_22, xo_20, th0_f, e8, r9, h8, hp1, c_M_in, ht, ht2, z_b0, hb0, hb, one0, zer0, if_true, if_false, eq_self, Bool.true_eq_false, Bool.false_eq_true, and_true, true_and, and_false, false_and, or_true, true_or, or_false, false_or, ne_eq, not_true_eq_false, not_false_eq_true, decide_true, decide_false, z_sA_id]
theorem m_change (hM : z_HM G) (M : zM) {k w : Nat} {m : Nat} (h8 : M 458 4165 = nI m) (hm : m ≤ 40) (hk : k < m) (hw : w < 4) : z_call 231 [.ref 455, .int (nI k), .int (nI w)] G M = some (.inl (some (.int (M 458 (4166 + 4 * k + w)))), G, th0 M) := by
  have e8 : th0 M 458 = M 458 := th0_o M (by omega)
  have hp1 := nI_p1 (n := m) (by omega)
  have ht := in_t (i := k) (k := m - 1) (by omega) (by omega)
  have ht2 := in_t (i := w) (k := 3) (by omega) (by omega)
  have hb0 := bd_0 hM M (nI 1) (nI 0)
  have hb := bd_0 hM M (nI 2) (nI 1)
  obtain ⟨k0, ⟨r1, r8, r9, r10, r11, r12, r13, r17⟩, ⟨q1, q2⟩, ⟨q3, q4⟩, ⟨q5, q6⟩, ⟨q7, q8⟩, ⟨q9, q10⟩, ⟨q11, q12⟩, ⟨q13, q14⟩, ⟨q15, q16⟩, hp⟩ := id hM; have kr : ∀ a, z_rc a = 7 → z_kd G 455 = (0, z_rc a) := fun a h => (by rw [h]; exact k0)
  simp (disch := first | assumption | exact kr _ rfl | omega | exact Nat.le_of_ble_eq_true rfl) only [ze_M_change, zk_M_change_0, xo_2_0, xo_5, xo_18, xo_0_1, xo_17, xo_7, xo_32, xo_21, xo_63_3, xk_v, xk_n, xo_49, xo_54, zk_M_change_28, xo_55, zk_M_change_29, xo_64_4, zk_M_change_37, xo_0_2, zk_M_change_51, zk_M_change_52, xo_48, xo_70, zk_M_change_62, xo_22, xo_20, th0_f, nI_add, pk_mul, Nat.add_zero, z_sA_s, z_sA_sA, z_u_s, e8, r9, h8, hp1, c_M_in, ht, ht2, z_b0, hb0, hb, one0, zer0, if_true, if_false, eq_self, Bool.true_eq_false, Bool.false_eq_true, and_true, true_and, and_false, false_and, or_true, true_or, or_false, false_or, ne_eq, not_true_eq_false, not_false_eq_true, decide_true, decide_false, z_sA_id]
theorem m_ranked_f (hM : z_HM G) (M : zM) {x w : Int32} (hF : z_F n J B (M 458)) (hx : x < 0 ∨ ¬ x < nI n) : z_call 233 [.ref 455, .int x, .int w] G M = some (.inl (some (.int (nI 0))), G, rfm M 1 0) := by
  have e8 : th0 M 458 = M 458 := th0_o M (by omega)
  have hr := m_mem_f hM (th0 M) (n := n) (x := x) (by rw [e8]; exact hF.1.1.1) hF.1.1.2 (by have := hF.2.1; omega) hx
  have hb := bd_1 hM M (a := 1) (k := 0) (by omega) (by omega)
  obtain ⟨k0, ⟨r1, r8, r9, r10, r11, r12, r13, r17⟩, ⟨q1, q2⟩, ⟨q3, q4⟩, ⟨q5, q6⟩, ⟨q7, q8⟩, ⟨q9, q10⟩, ⟨q11, q12⟩, ⟨q13, q14⟩, ⟨q15, q16⟩, hp⟩ := id hM; have kr : ∀ a, z_rc a = 7 → z_kd G 455 = (0, z_rc a) := fun a h => (by rw [h]; exact k0)
  simp (disch := first | assumption | exact kr _ rfl | omega | exact Nat.le_of_ble_eq_true rfl) only [ze_M_ranked, zk_M_ranked_0, xo_2_0, xo_5, xo_18, xo_0_1, xo_64_2, xk_v, xk_n, xo_49, zk_M_ranked_14, xo_54, xo_55, zk_M_ranked_19, xo_64_4, xo_48, zk_M_ranked_27, xo_70, xo_10_3i, xo_10_3r, xo_10_3n, xo_11_4i, xo_11_4r, xo_11_4n, xo_1_4, xo_17, xo_32, xo_45, xo_0_3, xo_63_2, xo_64_3, xo_0_2, xo_43, xo_15_4i, xo_15_4r, xo_15_4n, th0_f, hr, hb, one0, zer0, if_true, if_false, eq_self, Bool.true_eq_false, Bool.false_eq_true, and_true, true_and, and_false, false_and, or_true, true_or, or_false, false_or, ne_eq, not_true_eq_false, not_false_eq_true, decide_true, decide_false, z_sA_id]
theorem m_ranked (hM : z_HM G) (M : zM) {i : Nat} {w : Int32} (hF : z_F n J B (M 458)) (hi : i < n) (hc : f_ci n (M 458) i < 256) : z_call 233 [.ref 455, .int (nI i), .int w] G M = some (.inl (some (.int (f_rk n (M 458) (f_ci n (M 458) i) w))), G, th0 M) := by
  have e8 : th0 M 458 = M 458 := th0_o M (by omega)
  have hF' : z_F n J B (th0 M 458) := by rw [e8]; exact hF
  have hn := hF.1.1.2
  have hr := m_mem_t hM (th0 M) (n := n) (i := i) (by rw [e8]; exact hF.1.1.1) hF.1.1.2 hi
  have hb := bd_0 hM M (nI 1) (nI 0)
  have w1 := c_M_circleOf hM (th0 M) (i := i) hF'.1.1.1 hn (by omega)
  have w2 := l_M_ranked hM (th0 M) (S := f_ci n (M 458) i) hF'.1.1.1 hn hc (nI i) w
  rw [e8] at w1 w2
  obtain ⟨k0, ⟨r1, r8, r9, r10, r11, r12, r13, r17⟩, ⟨q1, q2⟩, ⟨q3, q4⟩, ⟨q5, q6⟩, ⟨q7, q8⟩, ⟨q9, q10⟩, ⟨q11, q12⟩, ⟨q13, q14⟩, ⟨q15, q16⟩, hp⟩ := id hM; have kr : ∀ a, z_rc a = 7 → z_kd G 455 = (0, z_rc a) := fun a h => (by rw [h]; exact k0)
  simp (disch := first | assumption | exact kr _ rfl | omega | exact Nat.le_of_ble_eq_true rfl) only [ze_M_ranked, zk_M_ranked_0, xo_2_0, xo_5, xo_18, xo_0_1, xo_64_2, xk_v, xk_n, xo_49, xo_54, zk_M_ranked_18, xo_55, zk_M_ranked_19, xo_64_4, xo_48, xo_70, zk_M_ranked_29, xo_10_3i, xo_10_3r, xo_10_3n, xo_11_4i, xo_11_4r, xo_11_4n, xo_1_4, xo_17, xo_32, xo_45, xo_0_3, xo_63_2, xo_64_3, xo_0_2, xo_43, xo_15_4i, xo_15_4r, xo_15_4n, th0_f, hr, hb, one0, zer0, w1, w2, if_true, if_false, eq_self, Bool.true_eq_false, Bool.false_eq_true, and_true, true_and, and_false, false_and, or_true, true_or, or_false, false_or, ne_eq, not_true_eq_false, not_false_eq_true, decide_true, decide_false, z_sA_id]
theorem m_status (hM : z_HM G) (M : zM) (x : Int32) : z_call 247 [.ref 455, .int x] G M = some (.inl (some (.int (if x < 0 ∨ ¬ x < nI 3 then nI 4294967295 else M 456 (z_n x)))), G, th0 M) := by
  have e6 : th0 M 456 = M 456 := th0_o M (by omega)
  obtain ⟨k0, ⟨r1, r8, r9, r10, r11, r12, r13, r17⟩, ⟨q1, q2⟩, ⟨q3, q4⟩, ⟨q5, q6⟩, ⟨q7, q8⟩, ⟨q9, q10⟩, ⟨q11, q12⟩, ⟨q13, q14⟩, ⟨q15, q16⟩, hp⟩ := id hM; have kr : ∀ a, z_rc a = 7 → z_kd G 455 = (0, z_rc a) := fun a h => (by rw [h]; exact k0)
  rcases rg_1 x 3 (by omega) with ⟨i, hi, e⟩ | hx
  · subst e
    have ht := in_t (i := i) (k := 2) (by omega) (by omega)
    have hc : ¬ (nI i < 0 ∨ ¬ nI i < nI 3) := fun q => q.elim (nI_pos (by omega)) (fun q => q (nI_lt hi (by omega)))
    rw [if_neg hc, z_nN (by omega)]
    simp (disch := first | assumption | exact kr _ rfl | omega | exact Nat.le_of_ble_eq_true rfl) only [ze_M_status, zk_M_status_0, xo_2_0, xo_5, xo_18, xo_0_1, xo_63_3, xk_v, xk_n, xo_48, zk_M_status_14, xo_17, xo_32, xo_54, xo_55, zk_M_status_24, xo_70, th0_f, r1, e6, c_M_in, ht, z_b0, one0, zer0, if_true, if_false, eq_self, Bool.true_eq_false, Bool.false_eq_true, and_true, true_and, and_false, false_and, or_true, true_or, or_false, false_or, ne_eq, not_true_eq_false, not_false_eq_true, decide_true, decide_false, z_sA_id]
  · have ht := in_f (x := x) (k := 2) (by omega) hx
    rw [if_pos hx]
    simp (disch := first | assumption | exact kr _ rfl | omega | exact Nat.le_of_ble_eq_true rfl) only [ze_M_status, zk_M_status_0, xo_2_0, xo_5, xo_18, xo_0_1, xo_63_3, xk_v, xk_n, xo_48, xo_17, xo_32, xo_54, zk_M_status_23, xo_55, zk_M_status_24, xo_70, th0_f, c_M_in, ht, z_b0, one0, zer0, if_true, if_false, eq_self, Bool.true_eq_false, Bool.false_eq_true, and_true, true_and, and_false, false_and, or_true, true_or, or_false, false_or, ne_eq, not_true_eq_false, not_false_eq_true, decide_true, decide_false, z_sA_id]
theorem m_fault (hM : z_HM G) (M : zM) : z_call 175 [.ref 455] G M = some (.inl (some (.int (M 455 5))), G, th0 M) := by
  have f5 : th0 M 455 5 = M 455 5 := th0_fn M (by omega)
  obtain ⟨k0, ⟨r1, r8, r9, r10, r11, r12, r13, r17⟩, ⟨q1, q2⟩, ⟨q3, q4⟩, ⟨q5, q6⟩, ⟨q7, q8⟩, ⟨q9, q10⟩, ⟨q11, q12⟩, ⟨q13, q14⟩, ⟨q15, q16⟩, hp⟩ := id hM; have kr : ∀ a, z_rc a = 7 → z_kd G 455 = (0, z_rc a) := fun a h => (by rw [h]; exact k0)
  simp (disch := first | assumption | exact kr _ rfl | omega | exact Nat.le_of_ble_eq_true rfl) only [ze_M_fault, zk_M_fault_0, xo_2_0, xo_5, xo_18, xo_16, xo_70, th0_f, f5, if_true, if_false, eq_self, Bool.true_eq_false, Bool.false_eq_true, and_true, true_and, and_false, false_and, or_true, true_or, or_false, false_or, ne_eq, not_true_eq_false, not_false_eq_true, decide_true, decide_false, z_sA_id]
theorem m_set (hM : z_HM G) (M : zM) (h0 : M 458 0 = nI n) (hn : n ≤ 8) (x : Int32) : z_call 200 [.ref 455, .int x] G M = some (.inl (some (.int (z_b (zf_in x (nI 0) (nI (2 ^ n - 1)))))), G, M) := by
  have hb : (nI 1 <<< (nI n &&& 31)) - nI 1 = nI (2 ^ n - 1) := by
    have : ∀ n, n ≤ 8 → (nI 1 <<< (nI n &&& 31)) - nI 1 = nI (2 ^ n - 1) := by decide +kernel
    exact this n hn
  obtain ⟨k0, ⟨r1, r8, r9, r10, r11, r12, r13, r17⟩, ⟨q1, q2⟩, ⟨q3, q4⟩, ⟨q5, q6⟩, ⟨q7, q8⟩, ⟨q9, q10⟩, ⟨q11, q12⟩, ⟨q13, q14⟩, ⟨q15, q16⟩, hp⟩ := id hM; have kr : ∀ a, z_rc a = 7 → z_kd G 455 = (0, z_rc a) := fun a h => (by rw [h]; exact k0)
  simp (disch := first | assumption | exact kr _ rfl | omega | exact Nat.le_of_ble_eq_true rfl) only [ze_M_isSet, zk_M_isSet_0, xo_0_1, xo_5, xo_2_0, xo_17, xo_32, xo_26, xo_21, xo_63_3, xk_v, xk_n, xo_72a, xo_72b, r9, h0, hb, c_M_in, xo_72z, if_true, if_false, eq_self, Bool.true_eq_false, Bool.false_eq_true, and_true, true_and, and_false, false_and, or_true, true_or, or_false, false_or, ne_eq, not_true_eq_false, not_false_eq_true, decide_true, decide_false, z_sA_id]
end
/-! ===== the rules' bounds ===== -/
def q_lo (k : Nat) : Int32 := if k = 2 then nI 0 else nI 1
def q_hi (k : Nat) : Int32 := if k = 3 then nI 3 else nI 30
def z_St (G : zG) (M : zM) : Prop := ∀ p, p = 2 ∨ p = 3 ∨ p = 4 ∨ p = 5 → ((z_kd G p).1 = 1 ∧ (z_kd G p).2 = 4) ∧ ∀ k, k < 4 → M p k = if p = 2 ∨ p = 4 then q_lo k else q_hi k
def q_rule (x v : Int32) : Bool := decide (¬ x < 0 ∧ x < nI 4) && zf_in v (q_lo (z_n x)) (q_hi (z_n x))
theorem m_rule {G : zG} {M : zM} (hS : z_St G M) (x v : Int32) : z_call 209 [.int x, .int v] G M = some (.inl (some (.int (z_b (q_rule x v)))), G, M) := by
  unfold q_rule
  rcases rg_1 x 4 (by omega) with ⟨i, hi, e⟩ | hx
  · subst e
    have ht := in_t (i := i) (k := 3) (by omega) (by omega)
    obtain ⟨⟨a1, a2⟩, a3⟩ := hS 4 (by omega)
    obtain ⟨⟨b1, b2⟩, b3⟩ := hS 5 (by omega)
    have a4 := a3 i hi
    have b4 := b3 i hi
    rw [if_pos (by omega)] at a4
    rw [if_neg (by omega)] at b4
    rw [z_nN (by omega), decide_eq_true (show ¬ nI i < 0 ∧ nI i < nI 4 from ⟨nI_pos (by omega), nI_lt hi (by omega)⟩), Bool.true_and]
    cases hc : zf_in v (q_lo i) (q_hi i)
    · simp (disch := first | assumption | omega | exact Nat.le_of_ble_eq_true rfl | decide) only [ze_M_isRule, zk_M_isRule_0, xo_0_0, xo_5, xo_63_3, xk_v, xk_n, xo_48, zk_M_isRule_9, xo_0_1, xo_78, xo_32, xo_54, zk_M_isRule_30, xo_55, zk_M_isRule_31, xo_72a, xo_72b, c_M_in, ht, a2, b2, a4, b4, hc, z_b0, one0, zer0, xo_72a, if_true, if_false, eq_self, Bool.true_eq_false, Bool.false_eq_true]
      rfl
    · simp (disch := first | assumption | omega | exact Nat.le_of_ble_eq_true rfl | decide) only [ze_M_isRule, zk_M_isRule_0, xo_0_0, xo_5, xo_63_3, xk_v, xk_n, xo_48, zk_M_isRule_9, xo_0_1, xo_78, xo_32, zk_M_isRule_26, xo_54, xo_55, zk_M_isRule_31, xo_72a, xo_72b, c_M_in, ht, a2, b2, a4, b4, hc, z_b0, one0, zer0, xo_72b, if_true, if_false, eq_self, Bool.true_eq_false, Bool.false_eq_true]
      rfl
  · have ht := in_f (x := x) (k := 3) (by omega) hx
    have hc : ¬ (¬ x < 0 ∧ x < nI 4) := fun q => hx.elim q.1 (fun h => h q.2)
    rw [decide_eq_false hc, Bool.false_and]
    simp (disch := first | assumption | omega | exact Nat.le_of_ble_eq_true rfl | decide) only [ze_M_isRule, zk_M_isRule_0, xo_0_0, xo_5, xo_63_3, xk_v, xk_n, xo_48, xo_0_1, xo_78, xo_32, xo_54, zk_M_isRule_30, xo_55, zk_M_isRule_31, xo_72a, xo_72b, c_M_in, ht, z_b0, one0, zer0, xo_72a, if_true, if_false, eq_self, Bool.true_eq_false, Bool.false_eq_true]
    rfl
theorem k_rule {G : zG} {M : zM} (hS : z_St G M) (x v : Int32) : z_call 95 [.int x, .int v] G M = some (.inl (some (.int (z_b (q_rule x v)))), G, M) := by
  unfold q_rule
  rcases rg_1 x 4 (by omega) with ⟨i, hi, e⟩ | hx
  · subst e
    obtain ⟨⟨a1, a2⟩, a3⟩ := hS 2 (by omega)
    obtain ⟨⟨b1, b2⟩, b3⟩ := hS 3 (by omega)
    have a4 := a3 i hi
    have b4 := b3 i hi
    rw [if_pos (by omega)] at a4
    rw [if_neg (by omega)] at b4
    have c1 : ¬ nI i < 0 := nI_pos (by omega)
    have c2 : nI i < nI 4 := nI_lt hi (by omega)
    rw [z_nN (by omega), decide_eq_true (show ¬ nI i < 0 ∧ nI i < nI 4 from ⟨c1, c2⟩), Bool.true_and]
    unfold zf_in
    by_cases d1 : v < q_lo i
    · rw [decide_eq_false (fun q => q.1 d1)]
      simp (disch := first | assumption | omega | exact Nat.le_of_ble_eq_true rfl | decide) only [ze_C_isRule, zk_C_isRule_0, xo_0_0, xo_50, zk_C_isRule_4, xo_5, xo_45, zk_C_isRule_9, xo_0_1, xo_78, xo_32, xo_44, xo_46, xo_54, zk_C_isRule_31, xo_55, zk_C_isRule_32, xo_72a, xo_72b, a2, b2, a4, b4, c1, c2, d1, xo_72a, if_true, if_false, eq_self, Bool.true_eq_false, Bool.false_eq_true]
      rfl
    · by_cases d2 : q_hi i < v
      · rw [decide_eq_false (fun q => q.2 d2)]
        simp (disch := first | assumption | omega | exact Nat.le_of_ble_eq_true rfl | decide) only [ze_C_isRule, zk_C_isRule_0, xo_0_0, xo_50, zk_C_isRule_4, xo_5, xo_45, zk_C_isRule_9, xo_0_1, xo_78, xo_32, xo_44, zk_C_isRule_18, xo_46, xo_54, zk_C_isRule_31, xo_55, zk_C_isRule_32, xo_72a, xo_72b, a2, b2, a4, b4, c1, c2, d1, d2, xo_72a, if_true, if_false, eq_self, Bool.true_eq_false, Bool.false_eq_true]
        rfl
      · rw [decide_eq_true ⟨d1, d2⟩]
        simp (disch := first | assumption | omega | exact Nat.le_of_ble_eq_true rfl | decide) only [ze_C_isRule, zk_C_isRule_0, xo_0_0, xo_50, zk_C_isRule_4, xo_5, xo_45, zk_C_isRule_9, xo_0_1, xo_78, xo_32, xo_44, zk_C_isRule_18, xo_46, zk_C_isRule_27, xo_54, xo_55, zk_C_isRule_32, xo_72a, xo_72b, a2, b2, a4, b4, c1, c2, d1, d2, xo_72b, if_true, if_false, eq_self, Bool.true_eq_false, Bool.false_eq_true]
        rfl
  · have hc : ¬ (¬ x < 0 ∧ x < nI 4) := fun q => hx.elim q.1 (fun h => h q.2)
    rw [decide_eq_false hc, Bool.false_and]
    by_cases c1 : x < 0
    · simp (disch := first | assumption | omega | exact Nat.le_of_ble_eq_true rfl | decide) only [ze_C_isRule, zk_C_isRule_0, xo_0_0, xo_50, xo_5, xo_45, xo_0_1, xo_78, xo_32, xo_44, xo_46, xo_54, zk_C_isRule_31, xo_55, zk_C_isRule_32, xo_72a, xo_72b, c1, xo_72a, if_true, if_false, eq_self, Bool.true_eq_false, Bool.false_eq_true]
      rfl
    · have c2 : ¬ x < nI 4 := hx.elim (fun q => absurd q c1) (fun q => q)
      simp (disch := first | assumption | omega | exact Nat.le_of_ble_eq_true rfl | decide) only [ze_C_isRule, zk_C_isRule_0, xo_0_0, xo_50, zk_C_isRule_4, xo_5, xo_45, xo_0_1, xo_78, xo_32, xo_44, xo_46, xo_54, zk_C_isRule_31, xo_55, zk_C_isRule_32, xo_72a, xo_72b, c1, c2, xo_72a, if_true, if_false, eq_self, Bool.true_eq_false, Bool.false_eq_true]
      rfl
