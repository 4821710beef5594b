/-! ===== the reference remembers ===== -/
theorem l_M_rem50 {G : zG} (hM : z_HM G) (M : zM) {c : Nat} (hc : c < 8) (h : M 455 14 = nI c) (w : Value) : z_ex 178 (z_blk 178 50) [.ref 455, w] [] G M = some (.inl none, G, z_sA (z_sA M (463 + c) (z_cp 4326 (M 458) (M (463 + c)))) 455 (z_u (M 455) 14 (nI (c + 1)))) := by
  obtain ⟨k0, ⟨r1, r8, r9, r10, r11, r12, r13, r17⟩, ⟨q1, q2⟩, ⟨q3, q4⟩, ⟨q5, q6⟩, ⟨q7, q8⟩, ⟨q9, q10⟩, ⟨q11, q12⟩, ⟨q13, q14⟩, ⟨q15, q16⟩, hp⟩ := id hM; have kr : ∀ a, z_rc a = 7 → z_kd G 455 = (0, z_rc a) := fun a h => (by rw [h]; exact k0)
  obtain ⟨h1, h2, h3⟩ := hp c hc
  have hz : z_rf G 462 c ≠ 0 := by omega
  have hcp := c_M_copies (G := G) M (p := 458) (q := 463 + c) (by omega) (by omega) (by omega) (by omega) h2 h3
  have e4 : z_sA M (463 + c) (z_cp 4326 (M 458) (M (463 + c))) 455 = M 455 := z_sA_n _ _ _ _ (by omega)
  simp (disch := first | assumption | exact kr _ rfl | omega | exact Nat.le_of_ble_eq_true rfl) only [xo_2_0, xo_16, xo_6, xo_43, xo_5, xo_10_1i, xo_10_1r, xo_10_1n, xo_55, xo_0_1, xo_45, xo_17, xo_34, xo_21, xo_63_2, xk_v, xk_n, xo_15_1i, xo_15_1r, xo_15_1n, xo_54, xo_39i, xo_39r, xo_18, zk_M_remembers_50, xo_20, xo_69, nI_add, pk_mul, Nat.add_zero, z_sA_s, z_sA_sA, z_u_s, h, r9, r13, h1, hcp, e4, if_true, if_false, eq_self, Bool.true_eq_false, Bool.false_eq_true, and_true, true_and, and_false, false_and, or_true, true_or, or_false, false_or, ne_eq, not_true_eq_false, not_false_eq_true, decide_true, decide_false, z_sA_id]
/-- rows below j are the next ones, the others as they were -/
def z_Sh (M M' : zM) (j : Nat) : Prop := (∀ k, k < j → ∀ a, a < 4326 → M' (463 + k) a = M (463 + k + 1) a) ∧ (∀ q, q < 463 ∨ 463 + j ≤ q → M' q = M q)
theorem l_M_rem11 {G : zG} (hM : z_HM G) (M : zM) : ∀ r j (M1 : zM), j + r = 7 → z_Sh M M1 j → ∃ M', z_ex 178 (z_blk 178 11) [.ref 455, .int (nI (j + 1))] [] G M1 = z_ex 178 (z_blk 178 40) [.ref 455, .int (nI 8)] [] G M' ∧ z_Sh M M' 7 := by
  obtain ⟨k0, ⟨r1, r8, r9, r10, r11, r12, r13, r17⟩, ⟨q1, q2⟩, ⟨q3, q4⟩, ⟨q5, q6⟩, ⟨q7, q8⟩, ⟨q9, q10⟩, ⟨q11, q12⟩, ⟨q13, q14⟩, ⟨q15, q16⟩, hp⟩ := id hM; have kr : ∀ a, z_rc a = 7 → z_kd G 455 = (0, z_rc a) := fun a h => (by rw [h]; exact k0)
  intro r
  induction r with
  | zero =>
    intro j M1 e hS
    have hj : j = 7 := by omega
    subst hj
    have hlt : ¬ nI (7 + 1) < nI 8 := nI_nlt (by omega) (by omega)
    refine ⟨M1, ?_, hS⟩
    conv => lhs; rw [zk_M_remembers_11]
    simp (disch := first | assumption | exact kr _ rfl | omega | exact Nat.le_of_ble_eq_true rfl) only [xo_2_0, xo_16, xo_6, xo_43, xo_5, xo_10_1i, xo_10_1r, xo_10_1n, xo_55, xo_0_1, xo_45, xo_17, xo_34, xo_21, xo_63_2, xk_v, xk_n, xo_15_1i, xo_15_1r, xo_15_1n, xo_54, xo_39i, xo_39r, xo_18, xo_20, xo_69, nI_add, pk_mul, Nat.add_zero, z_sA_s, z_sA_sA, z_u_s, hlt, if_true, if_false, eq_self, Bool.true_eq_false, Bool.false_eq_true, and_true, true_and, and_false, false_and, or_true, true_or, or_false, false_or, ne_eq, not_true_eq_false, not_false_eq_true, decide_true, decide_false, z_sA_id]
  | succ r ih =>
    intro j M1 e hS
    have hlt : nI (j + 1) < nI 8 := nI_lt (by omega) (by omega)
    obtain ⟨a1, a2, a3⟩ := hp (j + 1) (by omega)
    obtain ⟨b1, b2, b3⟩ := hp j (by omega)
    have hz1 : z_rf G 462 (j + 1) ≠ 0 := by omega
    have hz2 : z_rf G 462 j ≠ 0 := by omega
    have hcp := c_M_copies (G := G) M1 (p := 463 + (j + 1)) (q := 463 + j) (by omega) (by omega) a2 a3 b2 b3
    obtain ⟨s1, s2⟩ := hS
    obtain ⟨M', m1, m2⟩ := ih (j + 1) (z_sA M1 (463 + j) (z_cp 4326 (M1 (463 + (j + 1))) (M1 (463 + j)))) (by omega) ⟨fun k hk a ha => by
      by_cases hkj : k = j
      · subst hkj
        rw [z_sA_s, z_cp_lt ha, s2 _ (Or.inr (by omega))]; rfl
      · rw [z_sA_n _ _ _ _ (by omega)]; exact s1 k (by omega) a ha, fun q hq => by rw [z_sA_n _ _ _ _ (by omega)]; exact s2 q (by omega)⟩
    refine ⟨M', ?_, m2⟩
    rw [← m1]
    conv => lhs; rw [zk_M_remembers_11]
    simp (disch := first | assumption | exact kr _ rfl | omega | exact Nat.le_of_ble_eq_true rfl) only [xo_2_0, xo_16, xo_6, xo_43, xo_5, xo_10_1i, xo_10_1r, xo_10_1n, xo_55, xo_0_1, xo_45, zk_M_remembers_17, xo_17, xo_34, xo_21, xo_63_2, xk_v, xk_n, xo_15_1i, xo_15_1r, xo_15_1n, xo_54, xo_39i, xo_39r, xo_18, xo_20, xo_69, nI_add, pk_mul, Nat.add_zero, z_sA_s, z_sA_sA, z_u_s, hlt, r13, nI_s1, a1, b1, hcp, if_true, if_false, eq_self, Bool.true_eq_false, Bool.false_eq_true, and_true, true_and, and_false, false_and, or_true, true_or, or_false, false_or, ne_eq, not_true_eq_false, not_false_eq_true, decide_true, decide_false, z_sA_id]
theorem c_M_remembers {G : zG} (hM : z_HM G) (M : zM) {c : Nat} (hc : c ≤ 8) (h : M 455 14 = nI c) : ∃ M', z_call 178 [.ref 455] G M = some (.inl none, G, M') ∧ M' 455 = z_u (M 455) 14 (nI (min (c + 1) 8)) ∧ (∀ k, k < min c 7 → ∀ a, a < 4326 → M' (463 + k) a = M (463 + k + (c + 1 - min (c + 1) 8)) a) ∧ (∀ a, a < 4326 → M' (463 + min c 7) a = M 458 a) ∧ (∀ q, q ≠ 455 → (q < 463 ∨ 470 < q) → M' q = M q) := by
  have hM' := hM
  obtain ⟨k0, ⟨r1, r8, r9, r10, r11, r12, r13, r17⟩, ⟨q1, q2⟩, ⟨q3, q4⟩, ⟨q5, q6⟩, ⟨q7, q8⟩, ⟨q9, q10⟩, ⟨q11, q12⟩, ⟨q13, q14⟩, ⟨q15, q16⟩, hp⟩ := id hM; have kr : ∀ a, z_rc a = 7 → z_kd G 455 = (0, z_rc a) := fun a h => (by rw [h]; exact k0)
  by_cases h8 : c = 8
  · subst h8
    have e0 : z_call 178 [.ref 455] G M = z_ex 178 (z_blk 178 11) [.ref 455, .int (nI (0 + 1))] [] G M := by
      simp (disch := first | assumption | exact kr _ rfl | omega | exact Nat.le_of_ble_eq_true rfl) only [ze_M_remembers, zk_M_remembers_0, xo_2_0, xo_16, xo_6, xo_43, zk_M_remembers_9, xo_5, xo_10_1i, xo_10_1r, xo_10_1n, xo_55, xo_0_1, xo_45, xo_17, xo_34, xo_21, xo_63_2, xk_v, xk_n, xo_15_1i, xo_15_1r, xo_15_1n, xo_54, xo_39i, xo_39r, xo_18, xo_20, xo_69, nI_add, pk_mul, Nat.add_zero, z_sA_s, z_sA_sA, z_u_s, h, if_true, if_false, eq_self, Bool.true_eq_false, Bool.false_eq_true, and_true, true_and, and_false, false_and, or_true, true_or, or_false, false_or, ne_eq, not_true_eq_false, not_false_eq_true, decide_true, decide_false, z_sA_id, Nat.zero_add]
    obtain ⟨M1, m1, s1, s2⟩ := l_M_rem11 hM' M 7 0 M (by omega) ⟨fun k hk => absurd hk (by omega), fun _ _ => rfl⟩
    have e14 : M1 455 14 = nI 8 := by rw [s2 455 (by omega)]; exact h
    have n7 : nI 8 - nI 1 = nI 7 := by decide
    have e1 : z_ex 178 (z_blk 178 40) [.ref 455, .int (nI 8)] [] G M1 = z_ex 178 (z_blk 178 50) [.ref 455, .int (nI 8)] [] G (z_sA M1 455 (z_u (M1 455) 14 (nI 7))) := by
      simp (disch := first | assumption | exact kr _ rfl | omega | exact Nat.le_of_ble_eq_true rfl) only [xo_2_0, xo_16, xo_6, xo_43, xo_5, xo_10_1i, xo_10_1r, xo_10_1n, xo_55, xo_0_1, xo_45, xo_17, xo_34, xo_21, xo_63_2, xk_v, xk_n, xo_15_1i, xo_15_1r, xo_15_1n, xo_54, zk_M_remembers_40, xo_39i, xo_39r, xo_18, xo_20, xo_69, nI_add, pk_mul, Nat.add_zero, z_sA_s, z_sA_sA, z_u_s, e14, n7, if_true, if_false, eq_self, Bool.true_eq_false, Bool.false_eq_true, and_true, true_and, and_false, false_and, or_true, true_or, or_false, false_or, ne_eq, not_true_eq_false, not_false_eq_true, decide_true, decide_false, z_sA_id]
    have e2 := l_M_rem50 hM' (z_sA M1 455 (z_u (M1 455) 14 (nI 7))) (c := 7) (by omega) (by rw [z_sA_s, z_u_s]) (.int (nI 8))
    refine ⟨_, by rw [e0, m1, e1, e2], ?_, fun k hk a ha => ?_, fun a ha => ?_, fun q hq hq2 => ?_⟩
    · rw [z_sA_s, z_sA_s, s2 455 (by omega)]
      funext f
      by_cases hf : f = 14
      · subst hf; rw [z_u_s, z_u_s]; rfl
      · rw [z_u_n _ _ _ _ hf, z_u_n _ _ _ _ hf, z_u_n _ _ _ _ hf]
    · rw [z_sA_n _ _ _ _ (by omega), z_sA_n _ _ _ _ (by omega), z_sA_n _ _ _ _ (by omega)]
      exact s1 k (by omega) a ha
    · rw [z_sA_n _ _ _ _ (by omega), show 463 + min 8 7 = 463 + 7 by omega, z_sA_s, z_cp_lt ha, z_sA_n _ _ _ _ (by omega), s2 458 (by omega)]
    · rw [z_sA_n _ _ _ _ hq, z_sA_n _ _ _ _ (by omega), z_sA_n _ _ _ _ hq]
      exact s2 q (by omega)
  · have hc7 : c < 8 := by omega
    have hne : (nI c = nI 8) = False := eq_false (fun q => h8 ((nI_eq (by omega) (by omega)).mp q))
    have e0 : z_call 178 [.ref 455] G M = z_ex 178 (z_blk 178 50) [.ref 455, .null] [] G M := by
      simp (disch := first | assumption | exact kr _ rfl | omega | exact Nat.le_of_ble_eq_true rfl) only [ze_M_remembers, zk_M_remembers_0, xo_2_0, xo_16, xo_6, xo_43, xo_5, xo_10_1i, xo_10_1r, xo_10_1n, xo_55, xo_0_1, xo_45, xo_17, xo_34, xo_21, xo_63_2, xk_v, xk_n, xo_15_1i, xo_15_1r, xo_15_1n, xo_54, xo_39i, xo_39r, xo_18, xo_20, xo_69, nI_add, pk_mul, Nat.add_zero, z_sA_s, z_sA_sA, z_u_s, h, hne, if_true, if_false, eq_self, Bool.true_eq_false, Bool.false_eq_true, and_true, true_and, and_false, false_and, or_true, true_or, or_false, false_or, ne_eq, not_true_eq_false, not_false_eq_true, decide_true, decide_false, z_sA_id]
    refine ⟨_, by rw [e0]; exact l_M_rem50 hM' M hc7 h .null, ?_, fun k hk a ha => ?_, fun a ha => ?_, fun q hq hq2 => ?_⟩
    · rw [z_sA_s, show min (c + 1) 8 = c + 1 by omega]
    · rw [z_sA_n _ _ _ _ (by omega), z_sA_n _ _ _ _ (by omega), show 463 + k + (c + 1 - min (c + 1) 8) = 463 + k by omega]
    · rw [z_sA_n _ _ _ _ (by omega), show 463 + min c 7 = 463 + c by omega, z_sA_s, z_cp_lt ha]
    · rw [z_sA_n _ _ _ _ hq, z_sA_n _ _ _ _ (by omega)]
