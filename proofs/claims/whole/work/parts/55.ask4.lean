/-! ===== questions: who leads, the chief of most; in both ===== -/
def f_lp (s : Nat → Int32) (k i : Nat) : Bool := decide (s (41 + 28 * i) = 0 ∧ s (41 + 28 * i + 1) = nI k)
def f_ld (n : Nat) (s : Nat → Int32) : Nat := z_bs (fun i => f_lp s i i) n
theorem c_M_chiefs {G : zG} (hM : z_HM G) (M : zM) {n J B : Nat} (hF : z_F n J B (M 458)) : z_call 232 [.ref 455] G M = some (.inl (some (.int (nI (f_ld n (M 458))))), G, z_sA M 455 (z_u (M 455) 0 (nI 0))) := by
  obtain ⟨k0, ⟨r1, r8, r9, r10, r11, r12, r13, r17⟩, ⟨q1, q2⟩, ⟨q3, q4⟩, ⟨q5, q6⟩, ⟨q7, q8⟩, ⟨q9, q10⟩, ⟨q11, q12⟩, ⟨q13, q14⟩, ⟨q15, q16⟩, hp⟩ := id hM; have kr : ∀ a, z_rc a = 7 → z_kd G 455 = (0, z_rc a) := fun a h => (by rw [h]; exact k0)
  have hn : n ≤ 8 := hF.1.1.2
  have h0 : M 458 0 = nI n := hF.1.1.1
  have hltn : ¬ nI n < nI n := nI_nlt (Nat.le_refl _) (by omega)
  have main : ∀ M : zM, M 458 0 = nI n → z_ex 232 (z_blk 232 9) [.ref 455, .int (nI 0), .int (nI 0)] [] G M = some (.inl (some (.int (nI (f_ld n (M 458))))), G, M) := by
    intro M h0
    have e := z_loop0 (fun i a => z_ex 232 (z_blk 232 9) [.ref 455, .int (nI a), .int (nI i)] [] G M) (fun i a => if f_lp (M 458) i i = true then a ||| 2 ^ i else a) n (by
      intro i a hi
      have hi8 : i < 8 := by omega
      have hlt : nI i < nI n := nI_lt hi (by omega)
      have hb := z_bitN i hi8
      by_cases h1 : M 458 (41 + 28 * i) = 0
      · by_cases h2 : M 458 (41 + 28 * i + 1) = nI i
        · have hp : f_lp (M 458) i i = true := decide_eq_true ⟨h1, h2⟩
          rw [if_pos hp]
          conv => lhs; rw [zk_M_chiefs_9]
          simp (disch := first | assumption | exact kr _ rfl | omega | exact Nat.le_of_ble_eq_true rfl) only [xo_2_0, xo_5, xo_18, xo_10_1i, xo_10_1r, xo_10_1n, xo_10_2i, xo_10_2r, xo_10_2n, xo_55, xo_0_2, xo_17, xo_32, xo_45, zk_M_chiefs_19, xo_0_1, xo_64_2, xk_v, xk_n, xo_48, zk_M_chiefs_28, zk_M_chiefs_36, xo_26, xo_54, zk_M_chiefs_43, xo_24, xo_15_2i, xo_15_2r, xo_15_2n, xo_70, nI_add, pk_mul, Nat.add_zero, z_sA_s, z_sA_sA, z_u_s, r9, h0, hlt, zr_M_isNormal, c_M_isNormal hM, zr_M_isChief, c_M_isChief hM, h1, h2, hb, z_orNN, z_b0, if_true, if_false, eq_self, Bool.true_eq_false, Bool.false_eq_true, and_true, true_and, and_false, false_and, or_true, true_or, or_false, false_or, ne_eq, not_true_eq_false, not_false_eq_true, decide_true, decide_false, z_sA_id]
        · have hp : ¬ f_lp (M 458) i i = true := fun q => h2 (of_decide_eq_true q).2
          rw [if_neg hp]
          conv => lhs; rw [zk_M_chiefs_9]
          simp (disch := first | assumption | exact kr _ rfl | omega | exact Nat.le_of_ble_eq_true rfl) only [xo_2_0, xo_5, xo_18, xo_10_1i, xo_10_1r, xo_10_1n, xo_10_2i, xo_10_2r, xo_10_2n, xo_55, xo_0_2, xo_17, xo_32, xo_45, zk_M_chiefs_19, xo_0_1, xo_64_2, xk_v, xk_n, xo_48, zk_M_chiefs_28, xo_26, xo_54, zk_M_chiefs_42, zk_M_chiefs_43, xo_24, xo_15_2i, xo_15_2r, xo_15_2n, xo_70, nI_add, pk_mul, Nat.add_zero, z_sA_s, z_sA_sA, z_u_s, r9, h0, hlt, zr_M_isNormal, c_M_isNormal hM, zr_M_isChief, c_M_isChief hM, h1, h2, z_orNN, Nat.or_zero, z_b0, if_true, if_false, eq_self, Bool.true_eq_false, Bool.false_eq_true, and_true, true_and, and_false, false_and, or_true, true_or, or_false, false_or, ne_eq, not_true_eq_false, not_false_eq_true, decide_true, decide_false, z_sA_id]
      · have hp : ¬ f_lp (M 458) i i = true := fun q => h1 (of_decide_eq_true q).1
        rw [if_neg hp]
        conv => lhs; rw [zk_M_chiefs_9]
        simp (disch := first | assumption | exact kr _ rfl | omega | exact Nat.le_of_ble_eq_true rfl) only [xo_2_0, xo_5, xo_18, xo_10_1i, xo_10_1r, xo_10_1n, xo_10_2i, xo_10_2r, xo_10_2n, xo_55, xo_0_2, xo_17, xo_32, xo_45, zk_M_chiefs_19, xo_0_1, xo_64_2, xk_v, xk_n, xo_48, xo_26, xo_54, zk_M_chiefs_42, zk_M_chiefs_43, xo_24, xo_15_2i, xo_15_2r, xo_15_2n, xo_70, nI_add, pk_mul, Nat.add_zero, z_sA_s, z_sA_sA, z_u_s, r9, h0, hlt, zr_M_isNormal, c_M_isNormal hM, h1, z_orNN, Nat.or_zero, z_b0, if_true, if_false, eq_self, Bool.true_eq_false, Bool.false_eq_true, and_true, true_and, and_false, false_and, or_true, true_or, or_false, false_or, ne_eq, not_true_eq_false, not_false_eq_true, decide_true, decide_false, z_sA_id]) n 0 0 (by omega)
    rw [e]
    conv => lhs; rw [zk_M_chiefs_9]
    simp (disch := first | assumption | exact kr _ rfl | omega | exact Nat.le_of_ble_eq_true rfl) only [xo_2_0, xo_5, xo_18, xo_10_1i, xo_10_1r, xo_10_1n, xo_10_2i, xo_10_2r, xo_10_2n, xo_55, xo_0_2, xo_17, xo_32, xo_45, xo_0_1, xo_64_2, xk_v, xk_n, xo_48, xo_26, xo_54, xo_24, xo_15_2i, xo_15_2r, xo_15_2n, zk_M_chiefs_51, xo_70, nI_add, pk_mul, Nat.add_zero, z_sA_s, z_sA_sA, z_u_s, r9, h0, hltn, if_true, if_false, eq_self, Bool.true_eq_false, Bool.false_eq_true, and_true, true_and, and_false, false_and, or_true, true_or, or_false, false_or, ne_eq, not_true_eq_false, not_false_eq_true, decide_true, decide_false, z_sA_id, f_ld, z_bs]
  have hm : z_sA M 455 (z_u (M 455) 0 (nI 0)) 458 = M 458 := z_sA_n _ _ _ _ (by omega)
  have e2 := main (z_sA M 455 (z_u (M 455) 0 (nI 0))) (by rw [hm]; exact h0)
  rw [hm] at e2
  have e0 : z_call 232 [.ref 455] G M = z_ex 232 (z_blk 232 9) [.ref 455, .int (nI 0), .int (nI 0)] [] G (z_sA M 455 (z_u (M 455) 0 (nI 0))) := by
    simp (disch := first | assumption | exact kr _ rfl | omega | exact Nat.le_of_ble_eq_true rfl) only [ze_M_chiefs, zk_M_chiefs_0, xo_2_0, xo_5, xo_18, xo_10_1i, xo_10_1r, xo_10_1n, xo_10_2i, xo_10_2r, xo_10_2n, xo_55, xo_0_2, xo_17, xo_32, xo_45, xo_0_1, xo_64_2, xk_v, xk_n, xo_48, xo_26, xo_54, xo_24, xo_15_2i, xo_15_2r, xo_15_2n, xo_70]
  rw [e0, e2]
def f_cq (n : Nat) (s : Nat → Int32) (k : Nat) : Nat := z_ct (f_lp s k) n
def f_cc (n : Nat) (s : Nat → Int32) : Int32 × Nat := z_fd (fun k p => if p.2 < f_cq n s k then (nI k, f_cq n s k) else p) n 0 (nI 4294967295, 0)
theorem c_M_commonChief {G : zG} (hM : z_HM G) (M : zM) {n J B : Nat} (hF : z_F n J B (M 458)) : z_call 242 [.ref 455] G M = some (.inl (some (.int (f_cc n (M 458)).1)), G, M) := by
  obtain ⟨k0, ⟨r1, r8, r9, r10, r11, r12, r13, r17⟩, ⟨q1, q2⟩, ⟨q3, q4⟩, ⟨q5, q6⟩, ⟨q7, q8⟩, ⟨q9, q10⟩, ⟨q11, q12⟩, ⟨q13, q14⟩, ⟨q15, q16⟩, hp⟩ := id hM; have kr : ∀ a, z_rc a = 7 → z_kd G 455 = (0, z_rc a) := fun a h => (by rw [h]; exact k0)
  have hn : n ≤ 8 := hF.1.1.2
  have h0 : M 458 0 = nI n := hF.1.1.1
  have hltn : ¬ nI n < nI n := nI_nlt (Nat.le_refl _) (by omega)
  have e0 : z_call 242 [.ref 455] G M = z_ex 242 (z_blk 242 6) [.ref 455, .int (nI 4294967295), .int (nI 0), .int (nI 0), .null, .null] [] G M := by
    simp only [ze_M_commonChief, zk_M_commonChief_0, xo_5, xo_10_1i, xo_10_1r, xo_10_1n, xo_10_2i, xo_10_2r, xo_10_2n, xo_10_3i, xo_10_3r, xo_10_3n, xo_55, xo_0_3, xo_2_0, xo_17, xo_32, xo_45, xo_11_4i, xo_11_4r, xo_11_4n, xo_11_5i, xo_11_5r, xo_11_5n, xo_1_5, xo_1_4, xo_64_2, xk_v, xk_n, xo_48, xo_63_2, xo_43, xo_54, xo_20, xo_15_5i, xo_15_5r, xo_15_5n, xo_0_2, xo_46, xo_15_3i, xo_15_3r, xo_15_3n, xo_0_1, xo_70]
  have inn : ∀ (k : Nat) (x y : Int32), k < n → z_ex 242 (z_blk 242 22) [.ref 455, .int x, .int y, .int (nI k), .int (nI 0), .int (nI 0)] [] G M = z_ex 242 (z_blk 242 73) [.ref 455, .int x, .int y, .int (nI k), .int (nI (f_cq n (M 458) k)), .int (nI n)] [] G M := by
    intro k x y hk
    have e := z_loop0 (fun i a => z_ex 242 (z_blk 242 22) [.ref 455, .int x, .int y, .int (nI k), .int (nI a), .int (nI i)] [] G M) (fun i a => a + (f_lp (M 458) k i).toNat) n (by
      intro i a hi
      have hlt : nI i < nI n := nI_lt hi (by omega)
      by_cases h1 : M 458 (41 + 28 * i) = 0
      · by_cases h2 : M 458 (41 + 28 * i + 1) = nI k
        · have hp : f_lp (M 458) k i = true := decide_eq_true ⟨h1, h2⟩
          rw [hp, Bool.toNat_true]
          conv => lhs; rw [zk_M_commonChief_22]
          simp (disch := first | assumption | exact kr _ rfl | omega | exact Nat.le_of_ble_eq_true rfl) only [xo_5, xo_10_1i, xo_10_1r, xo_10_1n, xo_10_2i, xo_10_2r, xo_10_2n, xo_10_3i, xo_10_3r, xo_10_3n, xo_55, xo_0_3, xo_2_0, xo_17, xo_32, xo_45, xo_11_4i, xo_11_4r, xo_11_4n, xo_11_5i, xo_11_5r, xo_11_5n, xo_1_5, zk_M_commonChief_33, xo_1_4, xo_64_2, xk_v, xk_n, xo_48, zk_M_commonChief_44, xo_63_2, xo_43, zk_M_commonChief_59, xo_54, zk_M_commonChief_64, xo_20, xo_15_5i, xo_15_5r, xo_15_5n, xo_0_2, xo_46, xo_15_3i, xo_15_3r, xo_15_3n, xo_0_1, xo_70, nI_add, pk_mul, Nat.add_zero, z_sA_s, z_sA_sA, z_u_s, r9, h0, hlt, zr_M_isNormal, c_M_isNormal hM, c_M_m, h1, h2, z_b0, if_true, if_false, eq_self, Bool.true_eq_false, Bool.false_eq_true, and_true, true_and, and_false, false_and, or_true, true_or, or_false, false_or, ne_eq, not_true_eq_false, not_false_eq_true, decide_true, decide_false, z_sA_id]
        · have hp : f_lp (M 458) k i = false := decide_eq_false (fun q => h2 q.2)
          rw [hp, Bool.toNat_false]
          conv => lhs; rw [zk_M_commonChief_22]
          simp (disch := first | assumption | exact kr _ rfl | omega | exact Nat.le_of_ble_eq_true rfl) only [xo_5, xo_10_1i, xo_10_1r, xo_10_1n, xo_10_2i, xo_10_2r, xo_10_2n, xo_10_3i, xo_10_3r, xo_10_3n, xo_55, xo_0_3, xo_2_0, xo_17, xo_32, xo_45, xo_11_4i, xo_11_4r, xo_11_4n, xo_11_5i, xo_11_5r, xo_11_5n, xo_1_5, zk_M_commonChief_33, xo_1_4, xo_64_2, xk_v, xk_n, xo_48, zk_M_commonChief_44, xo_63_2, xo_43, xo_54, zk_M_commonChief_63, zk_M_commonChief_64, xo_20, xo_15_5i, xo_15_5r, xo_15_5n, xo_0_2, xo_46, xo_15_3i, xo_15_3r, xo_15_3n, xo_0_1, xo_70, nI_add, pk_mul, Nat.add_zero, z_sA_s, z_sA_sA, z_u_s, r9, h0, hlt, zr_M_isNormal, c_M_isNormal hM, c_M_m, h1, h2, z_b0, if_true, if_false, eq_self, Bool.true_eq_false, Bool.false_eq_true, and_true, true_and, and_false, false_and, or_true, true_or, or_false, false_or, ne_eq, not_true_eq_false, not_false_eq_true, decide_true, decide_false, z_sA_id]
      · have hp : f_lp (M 458) k i = false := decide_eq_false (fun q => h1 q.1)
        rw [hp, Bool.toNat_false]
        conv => lhs; rw [zk_M_commonChief_22]
        simp (disch := first | assumption | exact kr _ rfl | omega | exact Nat.le_of_ble_eq_true rfl) only [xo_5, xo_10_1i, xo_10_1r, xo_10_1n, xo_10_2i, xo_10_2r, xo_10_2n, xo_10_3i, xo_10_3r, xo_10_3n, xo_55, xo_0_3, xo_2_0, xo_17, xo_32, xo_45, xo_11_4i, xo_11_4r, xo_11_4n, xo_11_5i, xo_11_5r, xo_11_5n, xo_1_5, zk_M_commonChief_33, xo_1_4, xo_64_2, xk_v, xk_n, xo_48, xo_63_2, xo_43, xo_54, zk_M_commonChief_63, zk_M_commonChief_64, xo_20, xo_15_5i, xo_15_5r, xo_15_5n, xo_0_2, xo_46, xo_15_3i, xo_15_3r, xo_15_3n, xo_0_1, xo_70, nI_add, pk_mul, Nat.add_zero, z_sA_s, z_sA_sA, z_u_s, r9, h0, hlt, zr_M_isNormal, c_M_isNormal hM, h1, z_b0, if_true, if_false, eq_self, Bool.true_eq_false, Bool.false_eq_true, and_true, true_and, and_false, false_and, or_true, true_or, or_false, false_or, ne_eq, not_true_eq_false, not_false_eq_true, decide_true, decide_false, z_sA_id]) n 0 0 (by omega)
    rw [e]
    conv => lhs; rw [zk_M_commonChief_22]
    simp (disch := first | assumption | exact kr _ rfl | omega | exact Nat.le_of_ble_eq_true rfl) only [xo_5, xo_10_1i, xo_10_1r, xo_10_1n, xo_10_2i, xo_10_2r, xo_10_2n, xo_10_3i, xo_10_3r, xo_10_3n, xo_55, xo_0_3, xo_2_0, xo_17, xo_32, xo_45, xo_11_4i, xo_11_4r, xo_11_4n, xo_11_5i, xo_11_5r, xo_11_5n, xo_1_5, xo_1_4, xo_64_2, xk_v, xk_n, xo_48, xo_63_2, xo_43, xo_54, xo_20, xo_15_5i, xo_15_5r, xo_15_5n, xo_0_2, xo_46, xo_15_3i, xo_15_3r, xo_15_3n, xo_0_1, xo_70, nI_add, pk_mul, Nat.add_zero, z_sA_s, z_sA_sA, z_u_s, r9, h0, hltn, if_true, if_false, eq_self, Bool.true_eq_false, Bool.false_eq_true, and_true, true_and, and_false, false_and, or_true, true_or, or_false, false_or, ne_eq, not_true_eq_false, not_false_eq_true, decide_true, decide_false, z_sA_id, f_cq, z_ct]
  have out : ∀ (r k : Nat) (p : Int32 × Nat) (w1 w2 : Value), k + r = n → p.2 ≤ 8 → z_ex 242 (z_blk 242 6) [.ref 455, .int p.1, .int (nI p.2), .int (nI k), w1, w2] [] G M = some (.inl (some (.int (z_fd (fun k p => if p.2 < f_cq n (M 458) k then (nI k, f_cq n (M 458) k) else p) r k p).1)), G, M) := by
    intro r
    induction r with
    | zero =>
      intro k p w1 w2 e hp
      have hk : k = n := by omega
      subst hk
      conv => lhs; rw [zk_M_commonChief_6]
      simp (disch := first | assumption | exact kr _ rfl | omega | exact Nat.le_of_ble_eq_true rfl) only [xo_5, xo_10_1i, xo_10_1r, xo_10_1n, xo_10_2i, xo_10_2r, xo_10_2n, xo_10_3i, xo_10_3r, xo_10_3n, xo_55, xo_0_3, xo_2_0, xo_17, xo_32, xo_45, xo_11_4i, xo_11_4r, xo_11_4n, xo_11_5i, xo_11_5r, xo_11_5n, xo_1_5, xo_1_4, xo_64_2, xk_v, xk_n, xo_48, xo_63_2, xo_43, xo_54, xo_20, xo_15_5i, xo_15_5r, xo_15_5n, xo_0_2, xo_46, xo_15_3i, xo_15_3r, xo_15_3n, zk_M_commonChief_93, xo_0_1, xo_70, nI_add, pk_mul, Nat.add_zero, z_sA_s, z_sA_sA, z_u_s, r9, h0, hltn, if_true, if_false, eq_self, Bool.true_eq_false, Bool.false_eq_true, and_true, true_and, and_false, false_and, or_true, true_or, or_false, false_or, ne_eq, not_true_eq_false, not_false_eq_true, decide_true, decide_false, z_sA_id, z_fd_0]
    | succ r ih =>
      intro k p w1 w2 e hp
      have hlt : nI k < nI n := nI_lt (by omega) (by omega)
      have e2 := inn k p.1 (nI p.2) (by omega)
      have hle : f_cq n (M 458) k ≤ n := z_ct_le _ _
      have e3 : z_ex 242 (z_blk 242 6) [.ref 455, .int p.1, .int (nI p.2), .int (nI k), w1, w2] [] G M = z_ex 242 (z_blk 242 73) [.ref 455, .int p.1, .int (nI p.2), .int (nI k), .int (nI (f_cq n (M 458) k)), .int (nI n)] [] G M := by
        conv => lhs; rw [zk_M_commonChief_6]
        simp (disch := first | assumption | exact kr _ rfl | omega | exact Nat.le_of_ble_eq_true rfl) only [xo_5, xo_10_1i, xo_10_1r, xo_10_1n, xo_10_2i, xo_10_2r, xo_10_2n, xo_10_3i, xo_10_3r, xo_10_3n, xo_55, xo_0_3, xo_2_0, xo_17, xo_32, xo_45, zk_M_commonChief_16, xo_11_4i, xo_11_4r, xo_11_4n, xo_11_5i, xo_11_5r, xo_11_5n, xo_1_5, xo_1_4, xo_64_2, xk_v, xk_n, xo_48, xo_63_2, xo_43, xo_54, xo_20, xo_15_5i, xo_15_5r, xo_15_5n, xo_0_2, xo_46, xo_15_3i, xo_15_3r, xo_15_3n, xo_0_1, xo_70, nI_add, pk_mul, Nat.add_zero, z_sA_s, z_sA_sA, z_u_s, r9, h0, hlt, if_true, if_false, eq_self, Bool.true_eq_false, Bool.false_eq_true, and_true, true_and, and_false, false_and, or_true, true_or, or_false, false_or, ne_eq, not_true_eq_false, not_false_eq_true, decide_true, decide_false, z_sA_id, e2]
      rw [e3, z_fd_s]
      generalize f_cq n (M 458) k = q at hle ⊢
      by_cases hq : p.2 < q
      · have hl : nI p.2 < nI q := nI_lt hq (by omega)
        rw [if_pos hq, ← ih (k + 1) (nI k, q) (.int (nI q)) (.int (nI n)) (by omega) (by show q ≤ 8; omega)]
        simp (disch := first | assumption | exact kr _ rfl | omega | exact Nat.le_of_ble_eq_true rfl) only [xo_5, xo_10_1i, xo_10_1r, xo_10_1n, xo_10_2i, xo_10_2r, xo_10_2n, xo_10_3i, xo_10_3r, xo_10_3n, xo_55, xo_0_3, xo_2_0, xo_17, xo_32, xo_45, xo_11_4i, xo_11_4r, xo_11_4n, xo_11_5i, xo_11_5r, xo_11_5n, xo_1_5, xo_1_4, xo_64_2, xk_v, xk_n, xo_48, xo_63_2, xo_43, xo_54, xo_20, xo_15_5i, xo_15_5r, xo_15_5n, zk_M_commonChief_73, xo_0_2, xo_46, zk_M_commonChief_82, zk_M_commonChief_87, xo_15_3i, xo_15_3r, xo_15_3n, xo_0_1, xo_70, nI_add, pk_mul, Nat.add_zero, z_sA_s, z_sA_sA, z_u_s, hl, if_true, if_false, eq_self, Bool.true_eq_false, Bool.false_eq_true, and_true, true_and, and_false, false_and, or_true, true_or, or_false, false_or, ne_eq, not_true_eq_false, not_false_eq_true, decide_true, decide_false, z_sA_id]
      · have hl : ¬ nI p.2 < nI q := nI_nlt (by omega) (by omega)
        rw [if_neg hq, ← ih (k + 1) p (.int (nI q)) (.int (nI n)) (by omega) hp]
        simp (disch := first | assumption | exact kr _ rfl | omega | exact Nat.le_of_ble_eq_true rfl) only [xo_5, xo_10_1i, xo_10_1r, xo_10_1n, xo_10_2i, xo_10_2r, xo_10_2n, xo_10_3i, xo_10_3r, xo_10_3n, xo_55, xo_0_3, xo_2_0, xo_17, xo_32, xo_45, xo_11_4i, xo_11_4r, xo_11_4n, xo_11_5i, xo_11_5r, xo_11_5n, xo_1_5, xo_1_4, xo_64_2, xk_v, xk_n, xo_48, xo_63_2, xo_43, xo_54, xo_20, xo_15_5i, xo_15_5r, xo_15_5n, zk_M_commonChief_73, xo_0_2, xo_46, zk_M_commonChief_79, zk_M_commonChief_87, xo_15_3i, xo_15_3r, xo_15_3n, xo_0_1, xo_70, nI_add, pk_mul, Nat.add_zero, z_sA_s, z_sA_sA, z_u_s, hl, if_true, if_false, eq_self, Bool.true_eq_false, Bool.false_eq_true, and_true, true_and, and_false, false_and, or_true, true_or, or_false, false_or, ne_eq, not_true_eq_false, not_false_eq_true, decide_true, decide_false, z_sA_id]
  rw [e0]
  exact out n 0 (nI 4294967295, 0) .null .null (by omega) (Nat.zero_le _)
section
variable {G : zG} {b : Nat} {fl : Bool} {kp : Nat × Nat} {n J B Bf : Nat} {V : zM} {s : Nat → Int32} {i k : Nat}
theorem s_S_leaders (hW : z_HW G b) (M : zM) (h : z_R fl kp n B V s) (hF : z_F n J Bf s) : z_call 30 [.ref b] G (wr M b V) = some (.inl (some (.int (nI (f_ld n s)))), G, wr M b V) := by
  have hn : n ≤ 8 := hF.1.1.2
  have h0 : V 0 0 = nI n := h.1.1.trans hF.1.1.1
  have hltn : ¬ nI n < nI n := nI_nlt (Nat.le_refl _) (by omega)
  have e0 : z_call 30 [.ref b] G (wr M b V) = z_ex 30 (z_blk 30 4) [.ref b, .int (nI 0), .int (nI 0)] [] G (wr M b V) := by
    simp only [ze_S_leaders, zk_S_leaders_0, xo_5, xo_10_1i, xo_10_1r, xo_10_1n, xo_10_2i, xo_10_2r, xo_10_2n, xo_55, xo_0_2, xo_2_0, xo_16, xo_45, xo_17, xo_34, xo_64_1, xk_v, xk_n, xo_48, xo_0_1, xo_26, xo_24, xo_15_2i, xo_15_2r, xo_15_2n, xo_54, xo_70]
  have e := z_loop0 (fun i a => z_ex 30 (z_blk 30 4) [.ref b, .int (nI a), .int (nI i)] [] G (wr M b V)) (fun i a => if f_lp s i i = true then a ||| 2 ^ i else a) n (by
    intro i a hi
    have hi8 : i < 8 := by omega
    have hlt : nI i < nI n := nI_lt hi (by omega)
    have hld := c_B_leads hW M V hi8
    rw [leadsN h hi] at hld
    have hb := z_bitN i hi8
    by_cases hc : s (41 + 28 * i) = 0 ∧ s (41 + 28 * i + 1) = nI i
    · have hp : f_lp s i i = true := decide_eq_true hc
      rw [if_pos hp]
      rw [decide_eq_true hc] at hld
      conv => lhs; rw [zk_S_leaders_4]
      simp (disch := first | assumption | omega | exact Nat.le_of_ble_eq_true rfl | decide) only [xo_5, xo_10_1i, xo_10_1r, xo_10_1n, xo_10_2i, xo_10_2r, xo_10_2n, xo_55, xo_0_2, xo_2_0, xw_16w hW, xo_45, zk_S_leaders_12, xw_17w_5 hW, xw_34 hW, xw_64b_1 hW, xk_v, xk_n, xo_48, zk_S_leaders_24, xo_0_1, xo_26, xo_24, zk_S_leaders_30, xo_15_2i, xo_15_2r, xo_15_2n, xo_54, xo_70, nI_add, pk_mul, Nat.add_zero, h0, hlt, hld, hb, z_orNN, z_b0, if_true, if_false, eq_self, Bool.true_eq_false, Bool.false_eq_true]
    · have hp : ¬ f_lp s i i = true := fun q => hc (of_decide_eq_true q)
      rw [if_neg hp]
      rw [decide_eq_false hc] at hld
      conv => lhs; rw [zk_S_leaders_4]
      simp (disch := first | assumption | omega | exact Nat.le_of_ble_eq_true rfl | decide) only [xo_5, xo_10_1i, xo_10_1r, xo_10_1n, xo_10_2i, xo_10_2r, xo_10_2n, xo_55, xo_0_2, xo_2_0, xw_16w hW, xo_45, zk_S_leaders_12, xw_17w_5 hW, xw_34 hW, xw_64b_1 hW, xk_v, xk_n, xo_48, xo_0_1, xo_26, xo_24, zk_S_leaders_30, xo_15_2i, xo_15_2r, xo_15_2n, xo_54, xo_70, nI_add, pk_mul, Nat.add_zero, h0, hlt, hld, z_b0, if_true, if_false, eq_self, Bool.true_eq_false, Bool.false_eq_true]) n 0 0 (by omega)
  rw [e0, e]
  conv => lhs; rw [zk_S_leaders_4]
  simp (disch := first | assumption | omega | exact Nat.le_of_ble_eq_true rfl | decide) only [xo_5, xo_10_1i, xo_10_1r, xo_10_1n, xo_10_2i, xo_10_2r, xo_10_2n, xo_55, xo_0_2, xo_2_0, xw_16w hW, xo_45, xw_17w_5 hW, xw_34 hW, xw_64b_1 hW, xk_v, xk_n, xo_48, xo_0_1, xo_26, xo_24, xo_15_2i, xo_15_2r, xo_15_2n, xo_54, zk_S_leaders_36, xo_70, nI_add, pk_mul, Nat.add_zero, h0, hltn, if_true, if_false, eq_self, Bool.true_eq_false, Bool.false_eq_true, f_ld, z_bs]
theorem s_S_chiefOfMost (hW : z_HW G b) (M : zM) (h : z_R fl kp n B V s) (hF : z_F n J Bf s) : z_call 142 [.ref b] G (wr M b V) = some (.inl (some (.int (f_cc n s).1)), G, wr M b V) := by
  have hn : n ≤ 8 := hF.1.1.2
  have h0 : V 0 0 = nI n := h.1.1.trans hF.1.1.1
  have hltn : ¬ nI n < nI n := nI_nlt (Nat.le_refl _) (by omega)
  have e0 : z_call 142 [.ref b] G (wr M b V) = z_ex 142 (z_blk 142 6) [.ref b, .int (nI 4294967295), .int (nI 0), .int (nI 0), .null, .null] [] G (wr M b V) := by
    simp only [ze_S_chiefOfMost, zk_S_chiefOfMost_0, xo_5, xo_10_1i, xo_10_1r, xo_10_1n, xo_10_2i, xo_10_2r, xo_10_2n, xo_10_3i, xo_10_3r, xo_10_3n, xo_55, xo_0_3, xo_2_0, xo_16, xo_45, xo_11_4i, xo_11_4r, xo_11_4n, xo_11_5i, xo_11_5r, xo_11_5n, xo_1_5, xo_17, xo_34, xo_49, xo_43, xo_15_4i, xo_15_4r, xo_15_4n, xo_15_5i, xo_15_5r, xo_15_5n, xo_54, xo_1_4, xo_0_2, xo_47, xo_15_3i, xo_15_3r, xo_15_3n, xo_0_1, xo_70]
  have inn : ∀ (k : Nat) (x y : Int32), k < n → z_ex 142 (z_blk 142 20) [.ref b, .int x, .int y, .int (nI k), .int (nI 0), .int (nI 0)] [] G (wr M b V) = z_ex 142 (z_blk 142 65) [.ref b, .int x, .int y, .int (nI k), .int (nI (f_cq n s k)), .int (nI n)] [] G (wr M b V) := by
    intro k x y hk
    have e := z_loop0 (fun i a => z_ex 142 (z_blk 142 20) [.ref b, .int x, .int y, .int (nI k), .int (nI a), .int (nI i)] [] G (wr M b V)) (fun i a => a + (f_lp s k i).toNat) n (by
      intro i a hi
      have hi8 : i < 8 := by omega
      have hlt : nI i < nI n := nI_lt hi (by omega)
      have r3 := rd_3 h hi
      have r4 := rd_4 h hi
      by_cases h1 : s (41 + 28 * i) = 0
      · by_cases h2 : s (41 + 28 * i + 1) = nI k
        · have hp : f_lp s k i = true := decide_eq_true ⟨h1, h2⟩
          rw [hp, Bool.toNat_true]
          conv => lhs; rw [zk_S_chiefOfMost_20]
          simp (disch := first | assumption | omega | exact Nat.le_of_ble_eq_true rfl | decide) only [xo_5, xo_10_1i, xo_10_1r, xo_10_1n, xo_10_2i, xo_10_2r, xo_10_2n, xo_10_3i, xo_10_3r, xo_10_3n, xo_55, xo_0_3, xo_2_0, xw_16w hW, xw_16b hW, xo_45, xo_11_4i, xo_11_4r, xo_11_4n, xo_11_5i, xo_11_5r, xo_11_5n, xo_1_5, zk_S_chiefOfMost_29, xw_17w_5 hW, xw_34 hW, xo_49, zk_S_chiefOfMost_42, xo_43, zk_S_chiefOfMost_56, xo_15_4i, xo_15_4r, xo_15_4n, zk_S_chiefOfMost_59, xo_15_5i, xo_15_5r, xo_15_5n, xo_54, xo_1_4, xo_0_2, xo_47, xo_15_3i, xo_15_3r, xo_15_3n, xo_0_1, xo_70, nI_add, pk_mul, Nat.add_zero, h0, hlt, r3, r4, h1, h2, if_true, if_false, eq_self, Bool.true_eq_false, Bool.false_eq_true]
        · have hp : f_lp s k i = false := decide_eq_false (fun q => h2 q.2)
          rw [hp, Bool.toNat_false]
          conv => lhs; rw [zk_S_chiefOfMost_20]
          simp (disch := first | assumption | omega | exact Nat.le_of_ble_eq_true rfl | decide) only [xo_5, xo_10_1i, xo_10_1r, xo_10_1n, xo_10_2i, xo_10_2r, xo_10_2n, xo_10_3i, xo_10_3r, xo_10_3n, xo_55, xo_0_3, xo_2_0, xw_16w hW, xw_16b hW, xo_45, xo_11_4i, xo_11_4r, xo_11_4n, xo_11_5i, xo_11_5r, xo_11_5n, xo_1_5, zk_S_chiefOfMost_29, xw_17w_5 hW, xw_34 hW, xo_49, zk_S_chiefOfMost_42, xo_43, xo_15_4i, xo_15_4r, xo_15_4n, zk_S_chiefOfMost_59, xo_15_5i, xo_15_5r, xo_15_5n, xo_54, xo_1_4, xo_0_2, xo_47, xo_15_3i, xo_15_3r, xo_15_3n, xo_0_1, xo_70, nI_add, pk_mul, Nat.add_zero, h0, hlt, r3, r4, h1, h2, if_true, if_false, eq_self, Bool.true_eq_false, Bool.false_eq_true]
      · have hp : f_lp s k i = false := decide_eq_false (fun q => h1 q.1)
        rw [hp, Bool.toNat_false]
        conv => lhs; rw [zk_S_chiefOfMost_20]
        simp (disch := first | assumption | omega | exact Nat.le_of_ble_eq_true rfl | decide) only [xo_5, xo_10_1i, xo_10_1r, xo_10_1n, xo_10_2i, xo_10_2r, xo_10_2n, xo_10_3i, xo_10_3r, xo_10_3n, xo_55, xo_0_3, xo_2_0, xw_16w hW, xw_16b hW, xo_45, xo_11_4i, xo_11_4r, xo_11_4n, xo_11_5i, xo_11_5r, xo_11_5n, xo_1_5, zk_S_chiefOfMost_29, xw_17w_5 hW, xw_34 hW, xo_49, xo_43, xo_15_4i, xo_15_4r, xo_15_4n, zk_S_chiefOfMost_59, xo_15_5i, xo_15_5r, xo_15_5n, xo_54, xo_1_4, xo_0_2, xo_47, xo_15_3i, xo_15_3r, xo_15_3n, xo_0_1, xo_70, nI_add, pk_mul, Nat.add_zero, h0, hlt, r3, h1, if_true, if_false, eq_self, Bool.true_eq_false, Bool.false_eq_true]) n 0 0 (by omega)
    rw [e]
    conv => lhs; rw [zk_S_chiefOfMost_20]
    simp (disch := first | assumption | omega | exact Nat.le_of_ble_eq_true rfl | decide) only [xo_5, xo_10_1i, xo_10_1r, xo_10_1n, xo_10_2i, xo_10_2r, xo_10_2n, xo_10_3i, xo_10_3r, xo_10_3n, xo_55, xo_0_3, xo_2_0, xw_16w hW, xw_16b hW, xo_45, xo_11_4i, xo_11_4r, xo_11_4n, xo_11_5i, xo_11_5r, xo_11_5n, xo_1_5, xw_17w_5 hW, xw_34 hW, xo_49, xo_43, xo_15_4i, xo_15_4r, xo_15_4n, xo_15_5i, xo_15_5r, xo_15_5n, xo_54, xo_1_4, xo_0_2, xo_47, xo_15_3i, xo_15_3r, xo_15_3n, xo_0_1, xo_70, nI_add, pk_mul, Nat.add_zero, h0, hltn, if_true, if_false, eq_self, Bool.true_eq_false, Bool.false_eq_true, f_cq, z_ct]
  have out : ∀ (r k : Nat) (p : Int32 × Nat) (w1 w2 : Value), k + r = n → p.2 ≤ 8 → z_ex 142 (z_blk 142 6) [.ref b, .int p.1, .int (nI p.2), .int (nI k), w1, w2] [] G (wr M b V) = some (.inl (some (.int (z_fd (fun k p => if p.2 < f_cq n s k then (nI k, f_cq n s k) else p) r k p).1)), G, wr M b V) := by
    intro r
    induction r with
    | zero =>
      intro k p w1 w2 e hp
      have hk : k = n := by omega
      subst hk
      conv => lhs; rw [zk_S_chiefOfMost_6]
      simp (disch := first | assumption | omega | exact Nat.le_of_ble_eq_true rfl | decide) only [xo_5, xo_10_1i, xo_10_1r, xo_10_1n, xo_10_2i, xo_10_2r, xo_10_2n, xo_10_3i, xo_10_3r, xo_10_3n, xo_55, xo_0_3, xo_2_0, xw_16w hW, xw_16b hW, xo_45, xo_11_4i, xo_11_4r, xo_11_4n, xo_11_5i, xo_11_5r, xo_11_5n, xo_1_5, xw_17w_5 hW, xw_34 hW, xo_49, xo_43, xo_15_4i, xo_15_4r, xo_15_4n, xo_15_5i, xo_15_5r, xo_15_5n, xo_54, xo_1_4, xo_0_2, xo_47, xo_15_3i, xo_15_3r, xo_15_3n, zk_S_chiefOfMost_82, xo_0_1, xo_70, nI_add, pk_mul, Nat.add_zero, h0, hltn, if_true, if_false, eq_self, Bool.true_eq_false, Bool.false_eq_true, z_fd_0]
    | succ r ih =>
      intro k p w1 w2 e hp
      have hlt : nI k < nI n := nI_lt (by omega) (by omega)
      have e2 := inn k p.1 (nI p.2) (by omega)
      have hle : f_cq n s k ≤ n := z_ct_le _ _
      have e3 : z_ex 142 (z_blk 142 6) [.ref b, .int p.1, .int (nI p.2), .int (nI k), w1, w2] [] G (wr M b V) = z_ex 142 (z_blk 142 65) [.ref b, .int p.1, .int (nI p.2), .int (nI k), .int (nI (f_cq n s k)), .int (nI n)] [] G (wr M b V) := by
        conv => lhs; rw [zk_S_chiefOfMost_6]
        simp (disch := first | assumption | omega | exact Nat.le_of_ble_eq_true rfl | decide) only [xo_5, xo_10_1i, xo_10_1r, xo_10_1n, xo_10_2i, xo_10_2r, xo_10_2n, xo_10_3i, xo_10_3r, xo_10_3n, xo_55, xo_0_3, xo_2_0, xw_16w hW, xw_16b hW, xo_45, zk_S_chiefOfMost_14, xo_11_4i, xo_11_4r, xo_11_4n, xo_11_5i, xo_11_5r, xo_11_5n, xo_1_5, xw_17w_5 hW, xw_34 hW, xo_49, xo_43, xo_15_4i, xo_15_4r, xo_15_4n, xo_15_5i, xo_15_5r, xo_15_5n, xo_54, xo_1_4, xo_0_2, xo_47, xo_15_3i, xo_15_3r, xo_15_3n, xo_0_1, xo_70, nI_add, pk_mul, Nat.add_zero, h0, hlt, if_true, if_false, eq_self, Bool.true_eq_false, Bool.false_eq_true, e2]
      rw [e3, z_fd_s]
      generalize f_cq n s k = q at hle ⊢
      by_cases hq : p.2 < q
      · have hl : nI p.2 < nI q := nI_lt hq (by omega)
        rw [if_pos hq, ← ih (k + 1) (nI k, q) (.int (nI q)) (.int (nI n)) (by omega) (by show q ≤ 8; omega)]
        simp (disch := first | assumption | omega | exact Nat.le_of_ble_eq_true rfl | decide) only [xo_5, xo_10_1i, xo_10_1r, xo_10_1n, xo_10_2i, xo_10_2r, xo_10_2n, xo_10_3i, xo_10_3r, xo_10_3n, xo_55, xo_0_3, xo_2_0, xw_16w hW, xw_16b hW, xo_45, xo_11_4i, xo_11_4r, xo_11_4n, xo_11_5i, xo_11_5r, xo_11_5n, xo_1_5, xw_17w_5 hW, xw_34 hW, xo_49, xo_43, xo_15_4i, xo_15_4r, xo_15_4n, xo_15_5i, xo_15_5r, xo_15_5n, xo_54, zk_S_chiefOfMost_65, xo_1_4, xo_0_2, xo_47, zk_S_chiefOfMost_71, zk_S_chiefOfMost_76, xo_15_3i, xo_15_3r, xo_15_3n, xo_0_1, xo_70, nI_add, pk_mul, Nat.add_zero, hl, if_true, if_false, eq_self, Bool.true_eq_false, Bool.false_eq_true]
      · have hl : ¬ nI p.2 < nI q := nI_nlt (by omega) (by omega)
        rw [if_neg hq, ← ih (k + 1) p (.int (nI q)) (.int (nI n)) (by omega) hp]
        simp (disch := first | assumption | omega | exact Nat.le_of_ble_eq_true rfl | decide) only [xo_5, xo_10_1i, xo_10_1r, xo_10_1n, xo_10_2i, xo_10_2r, xo_10_2n, xo_10_3i, xo_10_3r, xo_10_3n, xo_55, xo_0_3, xo_2_0, xw_16w hW, xw_16b hW, xo_45, xo_11_4i, xo_11_4r, xo_11_4n, xo_11_5i, xo_11_5r, xo_11_5n, xo_1_5, xw_17w_5 hW, xw_34 hW, xo_49, xo_43, xo_15_4i, xo_15_4r, xo_15_4n, xo_15_5i, xo_15_5r, xo_15_5n, xo_54, zk_S_chiefOfMost_65, xo_1_4, xo_0_2, xo_47, zk_S_chiefOfMost_76, xo_15_3i, xo_15_3r, xo_15_3n, xo_0_1, xo_70, nI_add, pk_mul, Nat.add_zero, hl, if_true, if_false, eq_self, Bool.true_eq_false, Bool.false_eq_true]
  rw [e0]
  exact out n 0 (nI 4294967295, 0) .null .null (by omega) (Nat.zero_le _)
end
