/-! ===== questions: parts, least units, chiefs; in both ===== -/
def f_hp (n : Nat) (s : Nat → Int32) (k i : Nat) : Bool := zf_has (f_po n s i) (nI k)
def f_ho (n : Nat) (s : Nat → Int32) (k : Nat) : Nat := z_bs (f_hp n s k) n
def f_hq (n : Nat) (s : Nat → Int32) (k : Nat) : Nat := z_ct (f_hp n s k) n
def f_ji (n J : Nat) (s : Nat → Int32) (mo : Bool) : Nat := z_ct (fun k => if mo = true then decide (1 < f_hq n s k) else decide (f_hq n s k = 0)) J
theorem f_ho_q {n : Nat} (hn : n ≤ 8) (s : Nat → Int32) (k : Nat) : z_pc (f_ho n s k) = f_hq n s k := by
  unfold f_ho f_hq
  rw [z_pcT _ (z_bs_lt _ n hn), z_ct_cut (n := n) hn (fun j j1 _ => by rw [z_bs_t, decide_eq_false (show ¬ j < n by omega), Bool.false_and])]
  refine z_ct_congr n (fun j hj => ?_)
  rw [z_bs_t, decide_eq_true hj, Bool.true_and]
theorem c_M_jobsIn {G : zG} (hM : z_HM G) (M : zM) {n J B : Nat} (hF : z_F n J B (M 458)) (mo : Bool) : z_call 221 [.ref 455, .int (z_b mo)] G M = some (.inl (some (.int (nI (f_ji n J (M 458) mo)))), G, M) := by
  obtain ⟨k0, ⟨r1, r8, r9, r10, r11, r12, r13, r17⟩, ⟨q1, q2⟩, ⟨q3, q4⟩, ⟨q5, q6⟩, ⟨q7, q8⟩, ⟨q9, q10⟩, ⟨q11, q12⟩, ⟨q13, q14⟩, ⟨q15, q16⟩, hp⟩ := id hM; have kr : ∀ a, z_rc a = 7 → z_kd G 455 = (0, z_rc a) := fun a h => (by rw [h]; exact k0)
  have hn : n ≤ 8 := hF.1.1.2
  have h0 : M 458 0 = nI n := hF.1.1.1
  obtain ⟨hJ, hJ1, hJ6⟩ := hF.2.2.1
  have hltn : ¬ nI n < nI n := nI_nlt (Nat.le_refl _) (by omega)
  have hltJ : ¬ nI J < nI J := nI_nlt (Nat.le_refl _) (by omega)
  have e0 : z_call 221 [.ref 455, .int (z_b mo)] G M = z_ex 221 (z_blk 221 4) [.ref 455, .int (z_b mo), .int (nI 0), .int (nI 0), .null, .null] [] G M := by
    simp only [ze_M_jobsIn, zk_M_jobsIn_0, xo_5, xo_10_2i, xo_10_2r, xo_10_2n, xo_10_3i, xo_10_3r, xo_10_3n, xo_55, xo_0_3, xo_2_0, xo_17, xo_32, xo_45, xo_11_4i, xo_11_4r, xo_11_4n, xo_11_5i, xo_11_5r, xo_11_5n, xo_1_5, xo_1_4, xo_64_2, xk_v, xk_n, xo_63_2, xo_48, xo_54, xo_20, xo_15_5i, xo_15_5r, xo_15_5n, xo_0_2, xo_0_1, xo_47, xo_49, xo_15_3i, xo_15_3r, xo_15_3n, xo_70]
  have inn : ∀ (k so : Nat) (w1 w2 : Value), k < J → z_ex 221 (z_blk 221 14) [.ref 455, .int (z_b mo), .int (nI so), .int (nI k), w1, w2] [] G M = z_ex 221 (z_blk 221 60) [.ref 455, .int (z_b mo), .int (nI so), .int (nI k), .int (nI (f_hq n (M 458) k)), .int (nI n)] [] G M := by
    intro k so w1 w2 hk
    have e1 : z_ex 221 (z_blk 221 14) [.ref 455, .int (z_b mo), .int (nI so), .int (nI k), w1, w2] [] G M = z_ex 221 (z_blk 221 20) [.ref 455, .int (z_b mo), .int (nI so), .int (nI k), .int (nI 0), .int (nI 0)] [] G M := by
      simp only [xo_5, xo_10_2i, xo_10_2r, xo_10_2n, xo_10_3i, xo_10_3r, xo_10_3n, xo_55, xo_0_3, xo_2_0, xo_17, xo_32, xo_45, zk_M_jobsIn_14, xo_11_4i, xo_11_4r, xo_11_4n, xo_11_5i, xo_11_5r, xo_11_5n, xo_1_5, xo_1_4, xo_64_2, xk_v, xk_n, xo_63_2, xo_48, xo_54, xo_20, xo_15_5i, xo_15_5r, xo_15_5n, xo_0_2, xo_0_1, xo_47, xo_49, xo_15_3i, xo_15_3r, xo_15_3n, xo_70]
    have e := z_loop0 (fun i a => z_ex 221 (z_blk 221 20) [.ref 455, .int (z_b mo), .int (nI so), .int (nI k), .int (nI a), .int (nI i)] [] G M) (fun i a => a + (f_hp n (M 458) k i).toNat) n (by
      intro i a hi
      have hlt : nI i < nI n := nI_lt hi (by omega)
      obtain ⟨u, u1, u2, u3⟩ := F_4 hF hi
      have hpo := c_M_partOf hM M h0 hn (show i < 8 by omega) hJ hJ6 u3 u1
      have hfp : f_hp n (M 458) k i = zf_has (f_po n (M 458) i) (nI k) := rfl
      rw [hfp]
      cases hh : zf_has (f_po n (M 458) i) (nI k)
      · rw [Bool.toNat_false]
        conv => lhs; rw [zk_M_jobsIn_20]
        simp (disch := first | assumption | exact kr _ rfl | omega | exact Nat.le_of_ble_eq_true rfl) only [xo_5, xo_10_2i, xo_10_2r, xo_10_2n, xo_10_3i, xo_10_3r, xo_10_3n, xo_55, xo_0_3, xo_2_0, xo_17, xo_32, xo_45, xo_11_4i, xo_11_4r, xo_11_4n, xo_11_5i, xo_11_5r, xo_11_5n, xo_1_5, zk_M_jobsIn_31, xo_1_4, xo_64_2, xk_v, xk_n, xo_63_2, xo_48, xo_54, zk_M_jobsIn_50, zk_M_jobsIn_51, xo_20, xo_15_5i, xo_15_5r, xo_15_5n, xo_0_2, xo_0_1, xo_47, xo_49, xo_15_3i, xo_15_3r, xo_15_3n, xo_70, nI_add, pk_mul, Nat.add_zero, z_sA_s, z_sA_sA, z_u_s, r9, h0, hlt, zr_M_partOf, hpo, c_M_has, hh, z_b0, if_true, if_false, eq_self, Bool.true_eq_false, Bool.false_eq_true, and_true, true_and, and_false, false_and, or_true, true_or, or_false, false_or, ne_eq, not_true_eq_false, not_false_eq_true, decide_true, decide_false, z_sA_id]
      · rw [Bool.toNat_true]
        conv => lhs; rw [zk_M_jobsIn_20]
        simp (disch := first | assumption | exact kr _ rfl | omega | exact Nat.le_of_ble_eq_true rfl) only [xo_5, xo_10_2i, xo_10_2r, xo_10_2n, xo_10_3i, xo_10_3r, xo_10_3n, xo_55, xo_0_3, xo_2_0, xo_17, xo_32, xo_45, xo_11_4i, xo_11_4r, xo_11_4n, xo_11_5i, xo_11_5r, xo_11_5n, xo_1_5, zk_M_jobsIn_31, xo_1_4, xo_64_2, xk_v, xk_n, xo_63_2, xo_48, zk_M_jobsIn_46, xo_54, zk_M_jobsIn_51, xo_20, xo_15_5i, xo_15_5r, xo_15_5n, xo_0_2, xo_0_1, xo_47, xo_49, xo_15_3i, xo_15_3r, xo_15_3n, xo_70, nI_add, pk_mul, Nat.add_zero, z_sA_s, z_sA_sA, z_u_s, r9, h0, hlt, zr_M_partOf, hpo, c_M_has, hh, z_b0, if_true, if_false, eq_self, Bool.true_eq_false, Bool.false_eq_true, and_true, true_and, and_false, false_and, or_true, true_or, or_false, false_or, ne_eq, not_true_eq_false, not_false_eq_true, decide_true, decide_false, z_sA_id]) n 0 0 (by omega)
    rw [e1, e]
    conv => lhs; rw [zk_M_jobsIn_20]
    simp (disch := first | assumption | exact kr _ rfl | omega | exact Nat.le_of_ble_eq_true rfl) only [xo_5, xo_10_2i, xo_10_2r, xo_10_2n, xo_10_3i, xo_10_3r, xo_10_3n, xo_55, xo_0_3, xo_2_0, xo_17, xo_32, xo_45, xo_11_4i, xo_11_4r, xo_11_4n, xo_11_5i, xo_11_5r, xo_11_5n, xo_1_5, xo_1_4, xo_64_2, xk_v, xk_n, xo_63_2, xo_48, xo_54, xo_20, xo_15_5i, xo_15_5r, xo_15_5n, xo_0_2, xo_0_1, xo_47, xo_49, xo_15_3i, xo_15_3r, xo_15_3n, xo_70, nI_add, pk_mul, Nat.add_zero, z_sA_s, z_sA_sA, z_u_s, r9, h0, hltn, if_true, if_false, eq_self, Bool.true_eq_false, Bool.false_eq_true, and_true, true_and, and_false, false_and, or_true, true_or, or_false, false_or, ne_eq, not_true_eq_false, not_false_eq_true, decide_true, decide_false, z_sA_id, f_hq, z_ct]
  have out : ∀ (r k so : Nat) (w1 w2 : Value), k + r = J → z_ex 221 (z_blk 221 4) [.ref 455, .int (z_b mo), .int (nI so), .int (nI k), w1, w2] [] G M = some (.inl (some (.int (nI (z_fd (fun k a => a + (if mo = true then decide (1 < f_hq n (M 458) k) else decide (f_hq n (M 458) k = 0)).toNat) r k so)))), G, M) := by
    intro r
    induction r with
    | zero =>
      intro k so w1 w2 e
      have hk : k = J := by omega
      subst hk
      conv => lhs; rw [zk_M_jobsIn_4]
      simp (disch := first | assumption | exact kr _ rfl | omega | exact Nat.le_of_ble_eq_true rfl) only [xo_5, xo_10_2i, xo_10_2r, xo_10_2n, xo_10_3i, xo_10_3r, xo_10_3n, xo_55, xo_0_3, xo_2_0, xo_17, xo_32, xo_45, xo_11_4i, xo_11_4r, xo_11_4n, xo_11_5i, xo_11_5r, xo_11_5n, xo_1_5, xo_1_4, xo_64_2, xk_v, xk_n, xo_63_2, xo_48, xo_54, xo_20, xo_15_5i, xo_15_5r, xo_15_5n, xo_0_2, xo_0_1, xo_47, xo_49, xo_15_3i, xo_15_3r, xo_15_3n, zk_M_jobsIn_97, xo_70, nI_add, pk_mul, Nat.add_zero, z_sA_s, z_sA_sA, z_u_s, r9, hJ, hltJ, if_true, if_false, eq_self, Bool.true_eq_false, Bool.false_eq_true, and_true, true_and, and_false, false_and, or_true, true_or, or_false, false_or, ne_eq, not_true_eq_false, not_false_eq_true, decide_true, decide_false, z_sA_id, z_fd_0]
    | succ r ih =>
      intro k so w1 w2 e
      have hlt : nI k < nI J := nI_lt (by omega) (by omega)
      have e2 := inn k so w1 w2 (by omega)
      have hle : f_hq n (M 458) k ≤ n := z_ct_le _ _
      have e3 : z_ex 221 (z_blk 221 4) [.ref 455, .int (z_b mo), .int (nI so), .int (nI k), w1, w2] [] G M = z_ex 221 (z_blk 221 60) [.ref 455, .int (z_b mo), .int (nI so), .int (nI k), .int (nI (f_hq n (M 458) k)), .int (nI n)] [] G M := by
        conv => lhs; rw [zk_M_jobsIn_4]
        simp (disch := first | assumption | exact kr _ rfl | omega | exact Nat.le_of_ble_eq_true rfl) only [xo_5, xo_10_2i, xo_10_2r, xo_10_2n, xo_10_3i, xo_10_3r, xo_10_3n, xo_55, xo_0_3, xo_2_0, xo_17, xo_32, xo_45, xo_11_4i, xo_11_4r, xo_11_4n, xo_11_5i, xo_11_5r, xo_11_5n, xo_1_5, xo_1_4, xo_64_2, xk_v, xk_n, xo_63_2, xo_48, xo_54, xo_20, xo_15_5i, xo_15_5r, xo_15_5n, xo_0_2, xo_0_1, xo_47, xo_49, xo_15_3i, xo_15_3r, xo_15_3n, xo_70, nI_add, pk_mul, Nat.add_zero, z_sA_s, z_sA_sA, z_u_s, r9, hJ, hlt, if_true, if_false, eq_self, Bool.true_eq_false, Bool.false_eq_true, and_true, true_and, and_false, false_and, or_true, true_or, or_false, false_or, ne_eq, not_true_eq_false, not_false_eq_true, decide_true, decide_false, z_sA_id, e2]
      rw [e3, z_fd_s]
      generalize f_hq n (M 458) k = q at hle ⊢
      cases mo with
      | true =>
        rw [if_pos rfl]
        by_cases hq : 1 < q
        · have hl : nI 1 < nI q := nI_lt hq (by omega)
          rw [decide_eq_true hq, Bool.toNat_true, ← ih (k + 1) (so + 1) (.int (nI q)) (.int (nI n)) (by omega)]
          simp (disch := first | assumption | exact kr _ rfl | omega | exact Nat.le_of_ble_eq_true rfl) only [xo_5, xo_10_2i, xo_10_2r, xo_10_2n, xo_10_3i, xo_10_3r, xo_10_3n, xo_55, xo_0_3, xo_2_0, xo_17, xo_32, xo_45, xo_11_4i, xo_11_4r, xo_11_4n, xo_11_5i, xo_11_5r, xo_11_5n, xo_1_5, xo_1_4, xo_64_2, xk_v, xk_n, xo_63_2, xo_48, xo_54, xo_20, xo_15_5i, xo_15_5r, xo_15_5n, zk_M_jobsIn_60, xo_0_2, xo_0_1, zk_M_jobsIn_65, xo_47, zk_M_jobsIn_71, xo_49, zk_M_jobsIn_89, xo_15_3i, xo_15_3r, xo_15_3n, xo_70, nI_add, pk_mul, Nat.add_zero, z_sA_s, z_sA_sA, z_u_s, hl, z_b0, if_true, if_false, eq_self, Bool.true_eq_false, Bool.false_eq_true, and_true, true_and, and_false, false_and, or_true, true_or, or_false, false_or, ne_eq, not_true_eq_false, not_false_eq_true, decide_true, decide_false, z_sA_id]
        · have hl : ¬ nI 1 < nI q := nI_nlt (by omega) (by omega)
          rw [decide_eq_false hq, Bool.toNat_false, ← ih (k + 1) (so + 0) (.int (nI q)) (.int (nI n)) (by omega)]
          simp (disch := first | assumption | exact kr _ rfl | omega | exact Nat.le_of_ble_eq_true rfl) only [xo_5, xo_10_2i, xo_10_2r, xo_10_2n, xo_10_3i, xo_10_3r, xo_10_3n, xo_55, xo_0_3, xo_2_0, xo_17, xo_32, xo_45, xo_11_4i, xo_11_4r, xo_11_4n, xo_11_5i, xo_11_5r, xo_11_5n, xo_1_5, xo_1_4, xo_64_2, xk_v, xk_n, xo_63_2, xo_48, xo_54, xo_20, xo_15_5i, xo_15_5r, xo_15_5n, zk_M_jobsIn_60, xo_0_2, xo_0_1, zk_M_jobsIn_65, xo_47, zk_M_jobsIn_75, xo_49, zk_M_jobsIn_89, xo_15_3i, xo_15_3r, xo_15_3n, xo_70, nI_add, pk_mul, Nat.add_zero, z_sA_s, z_sA_sA, z_u_s, hl, z_b0, if_true, if_false, eq_self, Bool.true_eq_false, Bool.false_eq_true, and_true, true_and, and_false, false_and, or_true, true_or, or_false, false_or, ne_eq, not_true_eq_false, not_false_eq_true, decide_true, decide_false, z_sA_id]
      | false =>
        rw [if_neg (by decide)]
        by_cases hq : q = 0
        · have hl : (nI q = 0) = True := eq_true (by rw [hq]; decide)
          rw [decide_eq_true hq, Bool.toNat_true, ← ih (k + 1) (so + 1) (.int (nI q)) (.int (nI n)) (by omega)]
          simp (disch := first | assumption | exact kr _ rfl | omega | exact Nat.le_of_ble_eq_true rfl) only [xo_5, xo_10_2i, xo_10_2r, xo_10_2n, xo_10_3i, xo_10_3r, xo_10_3n, xo_55, xo_0_3, xo_2_0, xo_17, xo_32, xo_45, xo_11_4i, xo_11_4r, xo_11_4n, xo_11_5i, xo_11_5r, xo_11_5n, xo_1_5, xo_1_4, xo_64_2, xk_v, xk_n, xo_63_2, xo_48, xo_54, xo_20, xo_15_5i, xo_15_5r, xo_15_5n, zk_M_jobsIn_60, xo_0_2, xo_0_1, xo_47, zk_M_jobsIn_79, xo_49, zk_M_jobsIn_84, zk_M_jobsIn_89, xo_15_3i, xo_15_3r, xo_15_3n, xo_70, nI_add, pk_mul, Nat.add_zero, z_sA_s, z_sA_sA, z_u_s, hl, z_b0, if_true, if_false, eq_self, Bool.true_eq_false, Bool.false_eq_true, and_true, true_and, and_false, false_and, or_true, true_or, or_false, false_or, ne_eq, not_true_eq_false, not_false_eq_true, decide_true, decide_false, z_sA_id]
        · have hl : (nI q = 0) = False := eq_false (nI_ne0 (by omega) (by omega))
          rw [decide_eq_false hq, Bool.toNat_false, ← ih (k + 1) (so + 0) (.int (nI q)) (.int (nI n)) (by omega)]
          simp (disch := first | assumption | exact kr _ rfl | omega | exact Nat.le_of_ble_eq_true rfl) only [xo_5, xo_10_2i, xo_10_2r, xo_10_2n, xo_10_3i, xo_10_3r, xo_10_3n, xo_55, xo_0_3, xo_2_0, xo_17, xo_32, xo_45, xo_11_4i, xo_11_4r, xo_11_4n, xo_11_5i, xo_11_5r, xo_11_5n, xo_1_5, xo_1_4, xo_64_2, xk_v, xk_n, xo_63_2, xo_48, xo_54, xo_20, xo_15_5i, xo_15_5r, xo_15_5n, zk_M_jobsIn_60, xo_0_2, xo_0_1, xo_47, zk_M_jobsIn_79, xo_49, zk_M_jobsIn_88, zk_M_jobsIn_89, xo_15_3i, xo_15_3r, xo_15_3n, xo_70, nI_add, pk_mul, Nat.add_zero, z_sA_s, z_sA_sA, z_u_s, hl, z_b0, if_true, if_false, eq_self, Bool.true_eq_false, Bool.false_eq_true, and_true, true_and, and_false, false_and, or_true, true_or, or_false, false_or, ne_eq, not_true_eq_false, not_false_eq_true, decide_true, decide_false, z_sA_id]
  rw [e0]
  exact out J 0 0 .null .null (by omega)
def f_lf (n : Nat) (s : Nat → Int32) (k : Nat) : Int32 := z_fd (fun i a => if a < s (41 + 28 * i + (8 + k)) then a else s (41 + 28 * i + (8 + k))) (n - 1) 1 (s (41 + (8 + k)))
theorem c_M_leastOf {G : zG} (hM : z_HM G) (M : zM) {n k : Nat} (h0 : M 458 0 = nI n) (hn : n ≤ 8) (h1 : 1 ≤ n) (hk : k < 6) : z_call 226 [.ref 455, .int (nI k)] G M = some (.inl (some (.int (f_lf n (M 458) k))), G, M) := by
  obtain ⟨k0, ⟨r1, r8, r9, r10, r11, r12, r13, r17⟩, ⟨q1, q2⟩, ⟨q3, q4⟩, ⟨q5, q6⟩, ⟨q7, q8⟩, ⟨q9, q10⟩, ⟨q11, q12⟩, ⟨q13, q14⟩, ⟨q15, q16⟩, hp⟩ := id hM; have kr : ∀ a, z_rc a = 7 → z_kd G 455 = (0, z_rc a) := fun a h => (by rw [h]; exact k0)
  have hltn : ¬ nI n < nI n := nI_nlt (Nat.le_refl _) (by omega)
  have e0 : z_call 226 [.ref 455, .int (nI k)] G M = z_ex 226 (z_blk 226 16) [.ref 455, .int (nI k), .int (M 458 (41 + (8 + k))), .int (nI 1)] [] G M := by
    simp (disch := first | assumption | exact kr _ rfl | omega | exact Nat.le_of_ble_eq_true rfl) only [ze_M_leastOf, zk_M_leastOf_0, xo_2_0, xo_17, xo_5, xo_6, xo_0_1, xo_20, xo_63_2, xk_v, xk_n, xo_32, xo_10_2i, xo_10_2r, xo_10_2n, xo_10_3i, xo_10_3r, xo_10_3n, xo_55, xo_0_3, xo_45, xo_0_2, xo_15_3i, xo_15_3r, xo_15_3n, xo_54, xo_70, nI_add, pk_mul, Nat.add_zero, z_sA_s, z_sA_sA, z_u_s, r9, c_M_m, Nat.mul_zero]
  have e := z_loop0 (fun i a => z_ex 226 (z_blk 226 16) [.ref 455, .int (nI k), .int a, .int (nI i)] [] G M) (fun i a => if a < M 458 (41 + 28 * i + (8 + k)) then a else M 458 (41 + 28 * i + (8 + k))) n (by
    intro i a hi
    have hlt : nI i < nI n := nI_lt hi (by omega)
    conv => lhs; rw [zk_M_leastOf_16]
    simp (disch := first | assumption | exact kr _ rfl | omega | exact Nat.le_of_ble_eq_true rfl) only [xo_2_0, xo_17, xo_5, xo_6, xo_0_1, xo_20, xo_63_2, xk_v, xk_n, xo_32, xo_10_2i, xo_10_2r, xo_10_2n, xo_10_3i, xo_10_3r, xo_10_3n, xo_55, xo_0_3, xo_45, zk_M_leastOf_26, xo_0_2, xo_15_3i, xo_15_3r, xo_15_3n, xo_54, xo_70, nI_add, pk_mul, Nat.add_zero, z_sA_s, z_sA_sA, z_u_s, r9, c_M_m, c_M_less, h0, hlt, if_true, if_false, eq_self, Bool.true_eq_false, Bool.false_eq_true, and_true, true_and, and_false, false_and, or_true, true_or, or_false, false_or, ne_eq, not_true_eq_false, not_false_eq_true, decide_true, decide_false, z_sA_id]) (n - 1) 1 (M 458 (41 + (8 + k))) (by omega)
  rw [e0, e]
  conv => lhs; rw [zk_M_leastOf_16]
  simp (disch := first | assumption | exact kr _ rfl | omega | exact Nat.le_of_ble_eq_true rfl) only [xo_2_0, xo_17, xo_5, xo_6, xo_0_1, xo_20, xo_63_2, xk_v, xk_n, xo_32, xo_10_2i, xo_10_2r, xo_10_2n, xo_10_3i, xo_10_3r, xo_10_3n, xo_55, xo_0_3, xo_45, xo_0_2, xo_15_3i, xo_15_3r, xo_15_3n, xo_54, zk_M_leastOf_50, xo_70, nI_add, pk_mul, Nat.add_zero, z_sA_s, z_sA_sA, z_u_s, r9, h0, hltn, if_true, if_false, eq_self, Bool.true_eq_false, Bool.false_eq_true, and_true, true_and, and_false, false_and, or_true, true_or, or_false, false_or, ne_eq, not_true_eq_false, not_false_eq_true, decide_true, decide_false, z_sA_id, f_lf]
section
variable {G : zG} {b : Nat} {fl : Bool} {kp : Nat × Nat} {n J B Bf : Nat} {V : zM} {s : Nat → Int32} {i k : Nat}
theorem s_S_holdersOf (hW : z_HW G b) (M : zM) (h : z_R fl kp n B V s) (hF : z_F n J Bf s) (hk : k < 6) : z_call 107 [.ref b, .int (nI k)] G (wr M b V) = some (.inl (some (.int (nI (f_ho n s k)))), G, wr M b V) := by
  have hn : n ≤ 8 := hF.1.1.2
  have h0 : V 0 0 = nI n := h.1.1.trans hF.1.1.1
  have hltn : ¬ nI n < nI n := nI_nlt (Nat.le_refl _) (by omega)
  have e0 : z_call 107 [.ref b, .int (nI k)] G (wr M b V) = z_ex 107 (z_blk 107 4) [.ref b, .int (nI k), .int (nI 0), .int (nI 0)] [] G (wr M b V) := by
    simp only [ze_S_holdersOf, zk_S_holdersOf_0, xo_5, xo_10_2i, xo_10_2r, xo_10_2n, xo_10_3i, xo_10_3r, xo_10_3n, xo_55, xo_0_3, xo_2_0, xo_16, xo_45, xo_17, xo_34, xo_64_2, xk_v, xk_n, xo_0_1, xo_26, xo_23, xo_48, xo_0_2, xo_24, xo_15_3i, xo_15_3r, xo_15_3n, xo_54, xo_70]
  have e := z_loop0 (fun i a => z_ex 107 (z_blk 107 4) [.ref b, .int (nI k), .int (nI a), .int (nI i)] [] G (wr M b V)) (fun i a => if f_hp n s k i = true then a ||| 2 ^ i else a) n (by
    intro i a hi
    have hi8 : i < 8 := by omega
    have hlt : nI i < nI n := nI_lt hi (by omega)
    have hpo := s_W_partOf hW M h hF hi
    obtain ⟨p, p1, p2⟩ := f_po_8 (i := i) hF
    have hfp : f_hp n s k i = p.testBit k := by
      show zf_has (f_po n s i) (nI k) = _
      rw [p2, z_hasN p p1 k (by omega)]
    rw [p2] at hpo
    have hb := z_bitN i hi8
    rw [hfp]
    cases hbt : p.testBit k
    · have e2 : nI p &&& (nI 1 <<< (nI k &&& 31)) = 0 := (z_andN p p1 k (by omega)).mpr hbt
      rw [if_neg (by decide)]
      conv => lhs; rw [zk_S_holdersOf_4]
      simp (disch := first | assumption | omega | exact Nat.le_of_ble_eq_true rfl | decide) only [xo_5, xo_10_2i, xo_10_2r, xo_10_2n, xo_10_3i, xo_10_3r, xo_10_3n, xo_55, xo_0_3, xo_2_0, xw_16w hW, xo_45, zk_S_holdersOf_12, xw_17w_5 hW, xw_34 hW, xw_64w_2 hW, xk_v, xk_n, xo_0_1, xo_26, xo_23, xo_48, xo_0_2, xo_24, zk_S_holdersOf_35, xo_15_3i, xo_15_3r, xo_15_3n, xo_54, xo_70, nI_add, pk_mul, Nat.add_zero, h0, hlt, hpo, e2, if_true, if_false, eq_self, Bool.true_eq_false, Bool.false_eq_true]
    · have e2 : ¬ nI p &&& (nI 1 <<< (nI k &&& 31)) = 0 := fun q => by
        have := (z_andN p p1 k (by omega)).mp q
        rw [hbt] at this; exact Bool.false_ne_true this.symm
      rw [if_pos rfl]
      conv => lhs; rw [zk_S_holdersOf_4]
      simp (disch := first | assumption | omega | exact Nat.le_of_ble_eq_true rfl | decide) only [xo_5, xo_10_2i, xo_10_2r, xo_10_2n, xo_10_3i, xo_10_3r, xo_10_3n, xo_55, xo_0_3, xo_2_0, xw_16w hW, xo_45, zk_S_holdersOf_12, xw_17w_5 hW, xw_34 hW, xw_64w_2 hW, xk_v, xk_n, xo_0_1, xo_26, xo_23, xo_48, zk_S_holdersOf_29, xo_0_2, xo_24, zk_S_holdersOf_35, xo_15_3i, xo_15_3r, xo_15_3n, xo_54, xo_70, nI_add, pk_mul, Nat.add_zero, h0, hlt, hpo, e2, hb, z_orNN, if_true, if_false, eq_self, Bool.true_eq_false, Bool.false_eq_true]) n 0 0 (by omega)
  rw [e0, e]
  conv => lhs; rw [zk_S_holdersOf_4]
  simp (disch := first | assumption | omega | exact Nat.le_of_ble_eq_true rfl | decide) only [xo_5, xo_10_2i, xo_10_2r, xo_10_2n, xo_10_3i, xo_10_3r, xo_10_3n, xo_55, xo_0_3, xo_2_0, xw_16w hW, xo_45, xw_17w_5 hW, xw_34 hW, xw_64w_2 hW, xk_v, xk_n, xo_0_1, xo_26, xo_23, xo_48, xo_0_2, xo_24, xo_15_3i, xo_15_3r, xo_15_3n, xo_54, zk_S_holdersOf_41, xo_70, nI_add, pk_mul, Nat.add_zero, h0, hltn, if_true, if_false, eq_self, Bool.true_eq_false, Bool.false_eq_true, f_ho, z_bs]
theorem s_S_jobsHeldBy (hW : z_HW G b) (M : zM) (h : z_R fl kp n B V s) (hF : z_F n J Bf s) {lo hi : Nat} (hlo : lo ≤ 8) (hhi : hi ≤ 8) : z_call 106 [.ref b, .int (nI lo), .int (nI hi)] G (wr M b V) = some (.inl (some (.int (nI (z_ct (fun k => decide (lo ≤ f_hq n s k ∧ f_hq n s k ≤ hi)) J)))), G, wr M b V) := by
  have hn : n ≤ 8 := hF.1.1.2
  obtain ⟨hJ, hJ1, hJ6⟩ := hF.2.2.1
  have h01 : V 0 1 = nI J := h.1.2.1.trans hJ
  have hltn : ¬ nI J < nI J := nI_nlt (Nat.le_refl _) (by omega)
  have e0 : z_call 106 [.ref b, .int (nI lo), .int (nI hi)] G (wr M b V) = z_ex 106 (z_blk 106 5) [.ref b, .int (nI lo), .int (nI hi), .int (nI 0), .int (nI 0), .null] [] G (wr M b V) := by
    simp only [ze_S_jobsHeldBy, zk_S_jobsHeldBy_0, xo_5, xo_10_3i, xo_10_3r, xo_10_3n, xo_11_4i, xo_11_4r, xo_11_4n, xo_55, xo_1_4, xo_2_0, xo_16, xo_45, xo_63_2, xk_v, xk_n, xo_63_1, xo_11_5i, xo_11_5r, xo_11_5n, xo_1_5, xo_0_1, xo_44, xo_0_2, xo_46, xo_15_3i, xo_15_3r, xo_15_3n, xo_15_4i, xo_15_4r, xo_15_4n, xo_54, xo_0_3, xo_70]
  have out : ∀ (r k so : Nat) (w : Value), k + r = J → z_ex 106 (z_blk 106 5) [.ref b, .int (nI lo), .int (nI hi), .int (nI so), .int (nI k), w] [] G (wr M b V) = some (.inl (some (.int (nI (z_fd (fun k a => a + (decide (lo ≤ f_hq n s k ∧ f_hq n s k ≤ hi)).toNat) r k so)))), G, wr M b V) := by
    intro r
    induction r with
    | zero =>
      intro k so w e
      have hk : k = J := by omega
      subst hk
      conv => lhs; rw [zk_S_jobsHeldBy_5]
      simp (disch := first | assumption | omega | exact Nat.le_of_ble_eq_true rfl | decide) only [xo_5, xo_10_3i, xo_10_3r, xo_10_3n, xo_11_4i, xo_11_4r, xo_11_4n, xo_55, xo_1_4, xo_2_0, xw_16w hW, xo_45, xo_63_2, xk_v, xk_n, xo_63_1, xo_11_5i, xo_11_5r, xo_11_5n, xo_1_5, xo_0_1, xo_44, xo_0_2, xo_46, xo_15_3i, xo_15_3r, xo_15_3n, xo_15_4i, xo_15_4r, xo_15_4n, xo_54, zk_S_jobsHeldBy_46, xo_0_3, xo_70, nI_add, pk_mul, Nat.add_zero, h01, hltn, if_true, if_false, eq_self, Bool.true_eq_false, Bool.false_eq_true, z_fd_0]
    | succ r ih =>
      intro k so w e
      have hlt : nI k < nI J := nI_lt (by omega) (by omega)
      have hh := s_S_holdersOf hW M h hF (k := k) (by omega)
      have hbc := c_J_bitCount G (wr M b V) (k := f_ho n s k) (z_bs_lt _ n hn)
      rw [f_ho_q hn] at hbc
      have hle : f_hq n s k ≤ n := z_ct_le _ _
      rw [z_fd_s]
      generalize f_hq n s k = q at hbc hle ⊢
      by_cases h1 : lo ≤ q
      · have l1 : ¬ nI q < nI lo := nI_nlt h1 (by omega)
        by_cases h2 : q ≤ hi
        · have l2 : ¬ nI hi < nI q := nI_nlt h2 (by omega)
          rw [decide_eq_true (show lo ≤ q ∧ q ≤ hi from ⟨h1, h2⟩), Bool.toNat_true, ← ih (k + 1) (so + 1) (.int (nI q)) (by omega)]
          conv => lhs; rw [zk_S_jobsHeldBy_5]
          simp (disch := first | assumption | omega | exact Nat.le_of_ble_eq_true rfl | decide) only [xo_5, xo_10_3i, xo_10_3r, xo_10_3n, xo_11_4i, xo_11_4r, xo_11_4n, xo_55, xo_1_4, xo_2_0, xw_16w hW, xo_45, zk_S_jobsHeldBy_14, xo_63_2, xk_v, xk_n, xo_63_1, xo_11_5i, xo_11_5r, xo_11_5n, xo_1_5, xo_0_1, xo_44, zk_S_jobsHeldBy_31, xo_0_2, xo_46, zk_S_jobsHeldBy_37, xo_15_3i, xo_15_3r, xo_15_3n, zk_S_jobsHeldBy_40, xo_15_4i, xo_15_4r, xo_15_4n, xo_54, xo_0_3, xo_70, nI_add, pk_mul, Nat.add_zero, h01, hlt, hh, hbc, l1, l2, if_true, if_false, eq_self, Bool.true_eq_false, Bool.false_eq_true]
        · have l2 : nI hi < nI q := nI_lt (by omega) (by omega)
          rw [decide_eq_false (show ¬ (lo ≤ q ∧ q ≤ hi) from fun z => h2 z.2), Bool.toNat_false, ← ih (k + 1) (so + 0) (.int (nI q)) (by omega)]
          conv => lhs; rw [zk_S_jobsHeldBy_5]
          simp (disch := first | assumption | omega | exact Nat.le_of_ble_eq_true rfl | decide) only [xo_5, xo_10_3i, xo_10_3r, xo_10_3n, xo_11_4i, xo_11_4r, xo_11_4n, xo_55, xo_1_4, xo_2_0, xw_16w hW, xo_45, zk_S_jobsHeldBy_14, xo_63_2, xk_v, xk_n, xo_63_1, xo_11_5i, xo_11_5r, xo_11_5n, xo_1_5, xo_0_1, xo_44, zk_S_jobsHeldBy_31, xo_0_2, xo_46, xo_15_3i, xo_15_3r, xo_15_3n, zk_S_jobsHeldBy_40, xo_15_4i, xo_15_4r, xo_15_4n, xo_54, xo_0_3, xo_70, nI_add, pk_mul, Nat.add_zero, h01, hlt, hh, hbc, l1, l2, if_true, if_false, eq_self, Bool.true_eq_false, Bool.false_eq_true]
      · have l1 : nI q < nI lo := nI_lt (by omega) (by omega)
        rw [decide_eq_false (show ¬ (lo ≤ q ∧ q ≤ hi) from fun z => h1 z.1), Bool.toNat_false, ← ih (k + 1) (so + 0) (.int (nI q)) (by omega)]
        conv => lhs; rw [zk_S_jobsHeldBy_5]
        simp (disch := first | assumption | omega | exact Nat.le_of_ble_eq_true rfl | decide) only [xo_5, xo_10_3i, xo_10_3r, xo_10_3n, xo_11_4i, xo_11_4r, xo_11_4n, xo_55, xo_1_4, xo_2_0, xw_16w hW, xo_45, zk_S_jobsHeldBy_14, xo_63_2, xk_v, xk_n, xo_63_1, xo_11_5i, xo_11_5r, xo_11_5n, xo_1_5, xo_0_1, xo_44, xo_0_2, xo_46, xo_15_3i, xo_15_3r, xo_15_3n, zk_S_jobsHeldBy_40, xo_15_4i, xo_15_4r, xo_15_4n, xo_54, xo_0_3, xo_70, nI_add, pk_mul, Nat.add_zero, h01, hlt, hh, hbc, l1, if_true, if_false, eq_self, Bool.true_eq_false, Bool.false_eq_true]
  rw [e0]
  exact out J 0 0 .null (by omega)
theorem f_ji_t (n J : Nat) (hn : n ≤ 8) (s : Nat → Int32) : z_ct (fun k => decide (2 ≤ f_hq n s k ∧ f_hq n s k ≤ 8)) J = f_ji n J s true := z_ct_congr J (fun k _ => by
  have hle : f_hq n s k ≤ n := z_ct_le _ _
  rw [if_pos rfl]
  exact decide_eq_decide.mpr (by omega))
theorem f_ji_f (n J : Nat) (s : Nat → Int32) : z_ct (fun k => decide (0 ≤ f_hq n s k ∧ f_hq n s k ≤ 0)) J = f_ji n J s false := z_ct_congr J (fun k _ => by
  rw [if_neg (by decide)]
  exact decide_eq_decide.mpr (by omega))
theorem s_S_leastLedger (hW : z_HW G b) (M : zM) (h : z_R true kp n B V s) (hF : z_F n J Bf s) (hk : k < 6) : z_call 115 [.ref b, .int (nI k)] G (wr M b V) = some (.inl (some (.int (f_lf n s k))), G, wr M b V) := by
  have hn : n ≤ 8 := hF.1.1.2
  have hn2 : 2 ≤ n := hF.2.1
  have h0 : V 0 0 = nI n := h.1.1.trans hF.1.1.1
  have hltn : ¬ nI n < nI n := nI_nlt (Nat.le_refl _) (by omega)
  have hw0 := (h.2.2.2.1 rfl 0 (by omega)).1 k hk
  have e0 : z_call 115 [.ref b, .int (nI k)] G (wr M b V) = z_ex 115 (z_blk 115 14) [.ref b, .int (nI k), .int (s (41 + 28 * 0 + (8 + k))), .int (nI 1)] [] G (wr M b V) := by
    simp (disch := first | assumption | omega | exact Nat.le_of_ble_eq_true rfl | decide) only [ze_S_leastLedger, zk_S_leastLedger_0, xo_2_0, xw_17w_5 hW, xw_17b_12 hW, xo_5, xw_34 hW, xo_0_1, xw_32_l hW, xo_10_2i, xo_10_2r, xo_10_2n, xo_10_3i, xo_10_3r, xo_10_3n, xo_55, xo_0_3, xw_16w hW, xo_45, xo_0_2, xo_87, xo_15_3i, xo_15_3r, xo_15_3n, xo_54, xo_70, hw0]
  rw [show 41 + 28 * 0 + (8 + k) = 41 + (8 + k) by omega] at e0
  have e := z_loop0 (fun i a => z_ex 115 (z_blk 115 14) [.ref b, .int (nI k), .int a, .int (nI i)] [] G (wr M b V)) (fun i a => if s (41 + 28 * i + (8 + k)) < a then s (41 + 28 * i + (8 + k)) else a) n (by
    intro i a hi
    have hi8 : i < 8 := by omega
    have hlt : nI i < nI n := nI_lt hi (by omega)
    have hw := (h.2.2.2.1 rfl i hi).1 k hk
    conv => lhs; rw [zk_S_leastLedger_14]
    simp (disch := first | assumption | omega | exact Nat.le_of_ble_eq_true rfl | decide) only [xo_2_0, xw_17w_5 hW, xw_17b_12 hW, xo_5, xw_34 hW, xo_0_1, xw_32_l hW, xo_10_2i, xo_10_2r, xo_10_2n, xo_10_3i, xo_10_3r, xo_10_3n, xo_55, xo_0_3, xw_16w hW, xo_45, zk_S_leastLedger_22, xo_0_2, xo_87, xo_15_3i, xo_15_3r, xo_15_3n, xo_54, xo_70, nI_add, pk_mul, Nat.add_zero, h0, hlt, hw, if_true, if_false, eq_self, Bool.true_eq_false, Bool.false_eq_true]) (n - 1) 1 (s (41 + (8 + k))) (by omega)
  have hfin : z_fd (fun i a => if s (41 + 28 * i + (8 + k)) < a then s (41 + 28 * i + (8 + k)) else a) (n - 1) 1 (s (41 + (8 + k))) = f_lf n s k := by
    unfold f_lf
    refine z_fd_congr (n - 1) 1 _ (fun j a _ _ => ?_)
    generalize s (41 + 28 * j + (8 + k)) = y
    by_cases h1 : y < a
    · rw [if_pos h1, if_neg (Int32.lt_asymm h1)]
    · rw [if_neg h1]
      by_cases h2 : a < y
      · rw [if_pos h2]
      · rw [if_neg h2]; exact Int32.le_antisymm (Int32.not_lt.mp h1) (Int32.not_lt.mp h2)
  rw [hfin] at e
  rw [e0, e]
  conv => lhs; rw [zk_S_leastLedger_14]
  simp (disch := first | assumption | omega | exact Nat.le_of_ble_eq_true rfl | decide) only [xo_2_0, xw_17w_5 hW, xw_17b_12 hW, xo_5, xw_34 hW, xo_0_1, xw_32_l hW, xo_10_2i, xo_10_2r, xo_10_2n, xo_10_3i, xo_10_3r, xo_10_3n, xo_55, xo_0_3, xw_16w hW, xo_45, xo_0_2, xo_87, xo_15_3i, xo_15_3r, xo_15_3n, xo_54, zk_S_leastLedger_44, xo_70, nI_add, pk_mul, Nat.add_zero, h0, hltn, if_true, if_false, eq_self, Bool.true_eq_false, Bool.false_eq_true]
end
