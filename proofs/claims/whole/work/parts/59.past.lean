/-! ===== the reference refuses, remembers and goes back ===== -/
theorem c_M_bad0 {G : zG} (hM : z_HM G) (M : zM) (x y : Int32) : z_call 161 [.ref 455, .int (z_b false), .int x, .int y] G M = some (.inl (some (.int (z_b (decide (M 455 0 ≠ 0))))), G, M) := by
  obtain ⟨k0, ⟨r1, r8, r9, r10, r11, r12, r13, r17⟩, ⟨q1, q2⟩, ⟨q3, q4⟩, ⟨q5, q6⟩, ⟨q7, q8⟩, ⟨q9, q10⟩, ⟨q11, q12⟩, ⟨q13, q14⟩, ⟨q15, q16⟩, hp⟩ := id hM; have kr : ∀ a, z_rc a = 7 → z_kd G 455 = (0, z_rc a) := fun a h => (by rw [h]; exact k0)
  by_cases h : M 455 0 = 0
  · simp (disch := first | assumption | exact kr _ rfl | omega | exact Nat.le_of_ble_eq_true rfl) only [ze_M_bad, zk_M_bad_0, xo_0_1, xo_48, xo_2_0, xo_16, xo_49, xo_0_2, xo_18, xo_17, xo_0_3, xo_40, xo_32, xo_5, xo_20, xo_33, xo_55, zk_M_bad_26, xo_54, zk_M_bad_37, zk_M_bad_38, xo_72a, xo_72b, nI_add, pk_mul, Nat.add_zero, z_sA_s, z_sA_sA, z_u_s, z_b0, h, if_true, if_false, eq_self, Bool.true_eq_false, Bool.false_eq_true, and_true, true_and, and_false, false_and, or_true, true_or, or_false, false_or, ne_eq, not_true_eq_false, not_false_eq_true, decide_true, decide_false, z_sA_id]
    rfl
  · simp (disch := first | assumption | exact kr _ rfl | omega | exact Nat.le_of_ble_eq_true rfl) only [ze_M_bad, zk_M_bad_0, xo_0_1, xo_48, xo_2_0, xo_16, xo_49, xo_0_2, xo_18, xo_17, xo_0_3, xo_40, xo_32, xo_5, xo_20, xo_33, xo_55, zk_M_bad_26, zk_M_bad_33, xo_54, zk_M_bad_38, xo_72a, xo_72b, nI_add, pk_mul, Nat.add_zero, z_sA_s, z_sA_sA, z_u_s, z_b0, h, if_true, if_false, eq_self, Bool.true_eq_false, Bool.false_eq_true, and_true, true_and, and_false, false_and, or_true, true_or, or_false, false_or, ne_eq, not_true_eq_false, not_false_eq_true, decide_true, decide_false, z_sA_id]
    rfl
theorem c_M_bad1 {G : zG} (hM : z_HM G) (M : zM) {x : Int32} {k : Nat} (hx : x ≠ 0) (hk : k < 3) (h : M 455 0 = 0) : z_call 161 [.ref 455, .int (z_b true), .int x, .int (nI k)] G M = some (.inl (some (.int (z_b true))), G, z_sA (z_sA M 455 (z_u (M 455) 0 x)) 456 (z_u (M 456) k (M 456 k + nI 1))) := by
  obtain ⟨k0, ⟨r1, r8, r9, r10, r11, r12, r13, r17⟩, ⟨q1, q2⟩, ⟨q3, q4⟩, ⟨q5, q6⟩, ⟨q7, q8⟩, ⟨q9, q10⟩, ⟨q11, q12⟩, ⟨q13, q14⟩, ⟨q15, q16⟩, hp⟩ := id hM; have kr : ∀ a, z_rc a = 7 → z_kd G 455 = (0, z_rc a) := fun a h => (by rw [h]; exact k0)
  have e1 : z_sA M 455 (z_u (M 455) 0 x) 456 = M 456 := z_sA_n _ _ _ _ (by omega)
  have e2 : z_sA (z_sA M 455 (z_u (M 455) 0 x)) 456 (z_u (M 456) k (M 456 k + nI 1)) 455 0 = x := by rw [z_sA_n _ _ _ _ (by omega), z_sA_s, z_u_s]
  simp (disch := first | assumption | exact kr _ rfl | omega | exact Nat.le_of_ble_eq_true rfl) only [ze_M_bad, zk_M_bad_0, xo_0_1, xo_48, zk_M_bad_4, xo_2_0, xo_16, xo_49, zk_M_bad_11, xo_0_2, xo_18, xo_17, xo_0_3, xo_40, xo_32, xo_5, xo_20, xo_33, xo_55, zk_M_bad_26, zk_M_bad_33, xo_54, zk_M_bad_38, xo_72a, xo_72b, nI_add, pk_mul, Nat.add_zero, z_sA_s, z_sA_sA, z_u_s, z_b0, r1, h, e1, e2, hx, if_true, if_false, eq_self, Bool.true_eq_false, Bool.false_eq_true, and_true, true_and, and_false, false_and, or_true, true_or, or_false, false_or, ne_eq, not_true_eq_false, not_false_eq_true, decide_true, decide_false, z_sA_id]
  rfl
theorem c_M_bad2 {G : zG} (hM : z_HM G) (M : zM) (x y : Int32) (h : M 455 0 ≠ 0) : z_call 161 [.ref 455, .int (z_b true), .int x, .int y] G M = some (.inl (some (.int (z_b true))), G, M) := by
  obtain ⟨k0, ⟨r1, r8, r9, r10, r11, r12, r13, r17⟩, ⟨q1, q2⟩, ⟨q3, q4⟩, ⟨q5, q6⟩, ⟨q7, q8⟩, ⟨q9, q10⟩, ⟨q11, q12⟩, ⟨q13, q14⟩, ⟨q15, q16⟩, hp⟩ := id hM; have kr : ∀ a, z_rc a = 7 → z_kd G 455 = (0, z_rc a) := fun a h => (by rw [h]; exact k0)
  simp (disch := first | assumption | exact kr _ rfl | omega | exact Nat.le_of_ble_eq_true rfl) only [ze_M_bad, zk_M_bad_0, xo_0_1, xo_48, zk_M_bad_4, xo_2_0, xo_16, xo_49, xo_0_2, xo_18, xo_17, xo_0_3, xo_40, xo_32, xo_5, xo_20, xo_33, xo_55, zk_M_bad_26, zk_M_bad_33, xo_54, zk_M_bad_38, xo_72a, xo_72b, nI_add, pk_mul, Nat.add_zero, z_sA_s, z_sA_sA, z_u_s, z_b0, h, if_true, if_false, eq_self, Bool.true_eq_false, Bool.false_eq_true, and_true, true_and, and_false, false_and, or_true, true_or, or_false, false_or, ne_eq, not_true_eq_false, not_false_eq_true, decide_true, decide_false, z_sA_id]
  rfl
theorem nI_s1 (k : Nat) : nI (k + 1) - nI 1 = nI k := by
  rw [← nI_add, Int32.add_sub_cancel]
/-- the past's rows: k-th of M' is the row f k of M -/
def z_Pst (c : Nat) (M M' : zM) (f : Nat → Nat) : Prop := ∀ k, k < c → ∀ a, a < 4326 → M' (463 + k) a = M (f k) a
theorem c_M_undo0 {G : zG} (hM : z_HM G) (M : zM) (h : M 455 14 = 0) : z_call 176 [.ref 455] G M = some (.inl (some (.int (nI 4294967295))), G, z_sA M 455 (z_u (M 455) 0 (nI 0))) := by
  obtain ⟨k0, ⟨r1, r8, r9, r10, r11, r12, r13, r17⟩, ⟨q1, q2⟩, ⟨q3, q4⟩, ⟨q5, q6⟩, ⟨q7, q8⟩, ⟨q9, q10⟩, ⟨q11, q12⟩, ⟨q13, q14⟩, ⟨q15, q16⟩, hp⟩ := id hM; have kr : ∀ a, z_rc a = 7 → z_kd G 455 = (0, z_rc a) := fun a h => (by rw [h]; exact k0)
  have e1 : z_sA M 455 (z_u (M 455) 0 (nI 0)) 455 14 = 0 := by rw [z_sA_s, z_u_n _ _ _ _ (by omega)]; exact h
  have e2 : z_u (M 455) 0 (nI 0) 14 = 0 := by rw [z_u_n _ _ _ _ (by omega)]; exact h
  simp (disch := first | assumption | exact kr _ rfl | omega | exact Nat.le_of_ble_eq_true rfl) only [ze_M_undo, zk_M_undo_0, xo_2_0, xo_5, xo_18, xo_16, xo_49, zk_M_undo_12, xo_70, xo_39i, xo_39r, xo_21, xo_17, xo_34, xo_63_2, xk_v, xk_n, nI_add, pk_mul, Nat.add_zero, z_sA_s, z_sA_sA, z_u_s, e2, if_true, if_false, eq_self, Bool.true_eq_false, Bool.false_eq_true, and_true, true_and, and_false, false_and, or_true, true_or, or_false, false_or, ne_eq, not_true_eq_false, not_false_eq_true, decide_true, decide_false, z_sA_id]
theorem c_M_undo1 {G : zG} (hM : z_HM G) (M : zM) {c : Nat} (hc : c < 8) (h : M 455 14 = nI (c + 1)) : z_call 176 [.ref 455] G M = some (.inl (some (.int (nI c))), G, z_sA (z_sA M 455 (z_u (z_u (M 455) 0 (nI 0)) 14 (nI c))) 458 (z_cp 4326 (M (463 + c)) (M 458))) := by
  obtain ⟨k0, ⟨r1, r8, r9, r10, r11, r12, r13, r17⟩, ⟨q1, q2⟩, ⟨q3, q4⟩, ⟨q5, q6⟩, ⟨q7, q8⟩, ⟨q9, q10⟩, ⟨q11, q12⟩, ⟨q13, q14⟩, ⟨q15, q16⟩, hp⟩ := id hM; have kr : ∀ a, z_rc a = 7 → z_kd G 455 = (0, z_rc a) := fun a h => (by rw [h]; exact k0)
  obtain ⟨h1, h2, h3⟩ := hp c hc
  have hz : z_rf G 462 c ≠ 0 := by omega
  have e2 : z_u (M 455) 0 (nI 0) 14 = nI (c + 1) := by rw [z_u_n _ _ _ _ (by omega)]; exact h
  have e3 : (nI (c + 1) = 0) = False := eq_false (nI_ne0 (by omega) (by omega))
  have hcp := c_M_copies (G := G) (z_sA M 455 (z_u (z_u (M 455) 0 (nI 0)) 14 (nI c))) (p := 463 + c) (q := 458) (by omega) (by omega) h2 h3 (by omega) (by omega)
  rw [z_sA_n _ _ (463 + c) _ (by omega), z_sA_n _ _ 458 _ (by omega)] at hcp
  have e4 : z_sA (z_sA M 455 (z_u (z_u (M 455) 0 (nI 0)) 14 (nI c))) 458 (z_cp 4326 (M (463 + c)) (M 458)) 455 14 = nI c := by rw [z_sA_n _ _ _ _ (by omega), z_sA_s, z_u_s]
  simp (disch := first | assumption | exact kr _ rfl | omega | exact Nat.le_of_ble_eq_true rfl) only [ze_M_undo, zk_M_undo_0, xo_2_0, xo_5, xo_18, xo_16, xo_49, xo_70, zk_M_undo_14, xo_39i, xo_39r, xo_21, xo_17, xo_34, xo_63_2, xk_v, xk_n, nI_add, pk_mul, Nat.add_zero, z_sA_s, z_sA_sA, z_u_s, e2, e3, nI_s1, r9, r13, h1, hcp, e4, if_true, if_false, eq_self, Bool.true_eq_false, Bool.false_eq_true, and_true, true_and, and_false, false_and, or_true, true_or, or_false, false_or, ne_eq, not_true_eq_false, not_false_eq_true, decide_true, decide_false, z_sA_id]
