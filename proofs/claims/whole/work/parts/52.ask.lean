/-! ===== questions: circles, sets, units; in both ===== -/
def z_lo (S : Nat) : Nat := if S.testBit 0 then 0 else if S.testBit 1 then 1 else if S.testBit 2 then 2 else if S.testBit 3 then 3 else if S.testBit 4 then 4 else if S.testBit 5 then 5 else if S.testBit 6 then 6 else if S.testBit 7 then 7 else 8
theorem z_loP : ∀ S, S < 256 → S ≠ 0 → z_lo S < 8 ∧ S.testBit (z_lo S) = true ∧ ∀ k, k < 8 → k < z_lo S → S.testBit k = false := by decide +kernel
theorem z_loF : ∀ S, S < 256 → ∀ i, i < 8 → (decide (nI S &&& -nI S = nI 1 <<< (nI i &&& 31)) = (decide (S ≠ 0) && decide (z_lo S = i))) := by decide +kernel
theorem c_M_first (G : zG) (M : zM) {S : Nat} (hS : S < 256) (h0 : S ≠ 0) : z_call 213 [.int (nI S)] G M = some (.inl (some (.int (nI (z_lo S)))), G, M) := by
  obtain ⟨l1, l2, l3⟩ := z_loP S hS h0
  have e0 : z_call 213 [.int (nI S)] G M = z_ex 213 (z_blk 213 2) [.int (nI S), .int (nI 0)] [] G M := by
    simp only [ze_M_first, zk_M_first_0, xo_5, xo_10_1i, xo_10_1r, xo_10_1n, xo_55, xo_0_0, xo_0_1, xo_63_2, xk_v, xk_n, xo_49, xo_15_1i, xo_15_1r, xo_15_1n, xo_54, xo_70]
  have e := z_chain (fun k => z_ex 213 (z_blk 213 2) [.int (nI S), .int (nI k)] [] G M) (z_lo S) (by
    intro k hk
    have hh := z_hasN S hS k (by omega)
    rw [l3 k (by omega) hk] at hh
    conv => lhs; rw [zk_M_first_2]
    simp (disch := first | assumption | exact kr _ rfl | omega | exact Nat.le_of_ble_eq_true rfl) only [xo_5, xo_10_1i, xo_10_1r, xo_10_1n, xo_55, xo_0_0, xo_0_1, xo_63_2, xk_v, xk_n, xo_49, zk_M_first_10, xo_15_1i, xo_15_1r, xo_15_1n, xo_54, xo_70, c_M_has, hh, z_b0, nI_add, if_true, if_false, eq_self, Bool.true_eq_false, Bool.false_eq_true, and_true, true_and, and_false, false_and, or_true, true_or, or_false, false_or, ne_eq, not_true_eq_false, not_false_eq_true, decide_true, decide_false, z_sA_id]) (z_lo S) 0 (by omega)
  have hh := z_hasN S hS (z_lo S) l1
  rw [l2] at hh
  rw [e0, e]
  conv => lhs; rw [zk_M_first_2]
  simp (disch := first | assumption | exact kr _ rfl | omega | exact Nat.le_of_ble_eq_true rfl) only [xo_5, xo_10_1i, xo_10_1r, xo_10_1n, xo_55, xo_0_0, xo_0_1, xo_63_2, xk_v, xk_n, xo_49, xo_15_1i, xo_15_1r, xo_15_1n, xo_54, zk_M_first_16, xo_70, c_M_has, hh, z_b0, if_true, if_false, eq_self, Bool.true_eq_false, Bool.false_eq_true, and_true, true_and, and_false, false_and, or_true, true_or, or_false, false_or, ne_eq, not_true_eq_false, not_false_eq_true, decide_true, decide_false, z_sA_id]
theorem f_ci_t {n J B i : Nat} {s : Nat → Int32} (hF : z_F n J B s) (hi : i < n) : f_ci n s i < 256 ∧ (s (41 + 28 * i) = 0 → f_ci n s i ≠ 0) ∧ (s (41 + 28 * i) ≠ 0 → f_ci n s i = 0) := by
  have hn : n ≤ 8 := hF.1.1.2
  unfold f_ci
  by_cases h : s (41 + 28 * i) = 0
  · rw [if_pos h]
    refine ⟨z_bs_lt _ n hn, fun _ e => ?_, fun q => absurd h q⟩
    have := z_bs_t (fun o => decide (s (41 + 28 * o) = 0) && decide (s (41 + 28 * o + 3) = s (41 + 28 * i + 3))) n i
    rw [e, Nat.zero_testBit, decide_eq_true hi, decide_eq_true h] at this
    simp at this
  · rw [if_neg h]
    exact ⟨by omega, fun q => absurd q h, fun _ => rfl⟩
theorem f_so_t {n J B i : Nat} {s : Nat → Int32} (hF : z_F n J B s) (hi : i < n) : f_so n s i < 256 ∧ (s (41 + 28 * i) ≠ nI 2 → f_so n s i ≠ 0) ∧ (s (41 + 28 * i) = nI 2 → f_so n s i = 0) := by
  have hn : n ≤ 8 := hF.1.1.2
  obtain ⟨p1, p2, p3, _⟩ := z_it_p (z_q2_op (f_ed s) n) (f_s0_b s hi) n
  refine ⟨z_bits8 hn p3, fun h e => ?_, fun h => ?_⟩
  · have h1 : (f_s0 s i).testBit i = true := by unfold f_s0; rw [if_neg h]; exact Nat.testBit_two_pow_self
    have h2 := p1 i h1
    have e' : z_it (z_q2 (f_ed s) n) n (f_s0 s i) = 0 := e
    rw [e', Nat.zero_testBit] at h2; exact Bool.false_ne_true h2
  · have h0 : f_s0 s i = 0 := by unfold f_s0; rw [if_pos h]
    have hc : z_cls (f_ed s) n 0 := fun a b _ _ q _ => by rw [Nat.zero_testBit] at q; exact absurd q Bool.false_ne_true
    have hs : z_sub (f_s0 s i) 0 := by rw [h0]; exact fun _ q => q
    apply Nat.eq_of_testBit_eq
    intro j
    rw [Nat.zero_testBit]
    cases hb : (f_so n s i).testBit j
    · rfl
    · have := p2 0 hc hs j hb
      rw [Nat.zero_testBit] at this; exact absurd this Bool.false_ne_true
def f_cs (n : Nat) (s : Nat → Int32) : Nat := z_ct (fun i => decide (f_ci n s i ≠ 0) && decide (z_lo (f_ci n s i) = i)) n
def f_ss (n : Nat) (s : Nat → Int32) : Nat := z_ct (fun i => decide (f_so n s i ≠ 0) && decide (z_lo (f_so n s i) = i)) n
theorem c_M_circles {G : zG} (hM : z_HM G) (M : zM) {n J B : Nat} (hF : z_F n J B (M 458)) : z_call 211 [.ref 455] G M = some (.inl (some (.int (nI (f_cs n (M 458))))), G, M) := by
  obtain ⟨k0, ⟨r1, r8, r9, r10, r11, r12, r13, r17⟩, ⟨q1, q2⟩, ⟨q3, q4⟩, ⟨q5, q6⟩, ⟨q7, q8⟩, ⟨q9, q10⟩, ⟨q11, q12⟩, ⟨q13, q14⟩, ⟨q15, q16⟩, hp⟩ := id hM; have kr : ∀ a, z_rc a = 7 → z_kd G 455 = (0, z_rc a) := fun a h => (by rw [h]; exact k0)
  have hn : n ≤ 8 := hF.1.1.2
  have h0 : M 458 0 = nI n := hF.1.1.1
  have hltn : ¬ nI n < nI n := nI_nlt (Nat.le_refl _) (by omega)
  have e0 : z_call 211 [.ref 455] G M = z_ex 211 (z_blk 211 4) [.ref 455, .int (nI 0), .int (nI 0)] [] G M := by
    simp only [ze_M_circles, zk_M_circles_0, xo_5, xo_10_1i, xo_10_1r, xo_10_1n, xo_10_2i, xo_10_2r, xo_10_2n, xo_55, xo_0_2, xo_2_0, xo_17, xo_32, xo_45, xo_0_1, xo_64_2, xk_v, xk_n, xo_48, xo_63_1, xo_43, xo_54, xo_20, xo_15_2i, xo_15_2r, xo_15_2n, xo_70]
  have e := z_loop0 (fun i a => z_ex 211 (z_blk 211 4) [.ref 455, .int (nI a), .int (nI i)] [] G M) (fun i a => a + (decide (f_ci n (M 458) i ≠ 0) && decide (z_lo (f_ci n (M 458) i) = i)).toNat) n (by
    intro i a hi
    have hlt : nI i < nI n := nI_lt hi (by omega)
    obtain ⟨c1, c2, c3⟩ := f_ci_t hF hi
    by_cases hN : M 458 (41 + 28 * i) = 0
    · have hne := c2 hN
      have hci := c_M_circleOf hM M (i := i) h0 hn (by omega)
      have hfi := c_M_first G M c1 hne
      rw [decide_eq_true hne, Bool.true_and]
      by_cases hl : z_lo (f_ci n (M 458) i) = i
      · have e1 : (nI (z_lo (f_ci n (M 458) i)) = nI i) = True := eq_true (by rw [hl])
        rw [decide_eq_true hl, Bool.toNat_true]
        conv => lhs; rw [zk_M_circles_4]
        simp (disch := first | assumption | exact kr _ rfl | omega | exact Nat.le_of_ble_eq_true rfl) only [xo_5, xo_10_1i, xo_10_1r, xo_10_1n, xo_10_2i, xo_10_2r, xo_10_2n, xo_55, xo_0_2, xo_2_0, xo_17, xo_32, xo_45, zk_M_circles_14, xo_0_1, xo_64_2, xk_v, xk_n, xo_48, zk_M_circles_23, xo_63_1, xo_43, zk_M_circles_35, xo_54, zk_M_circles_40, xo_20, xo_15_2i, xo_15_2r, xo_15_2n, xo_70, nI_add, pk_mul, Nat.add_zero, z_sA_s, z_sA_sA, z_u_s, r9, h0, hlt, zr_M_isNormal, c_M_isNormal hM, hN, zr_M_circleOf, hci, hfi, e1, z_b0, if_true, if_false, eq_self, Bool.true_eq_false, Bool.false_eq_true, and_true, true_and, and_false, false_and, or_true, true_or, or_false, false_or, ne_eq, not_true_eq_false, not_false_eq_true, decide_true, decide_false, z_sA_id]
      · have hl8 := (z_loP _ c1 hne).1
        have e1 : (nI (z_lo (f_ci n (M 458) i)) = nI i) = False := eq_false (fun q => hl ((nI_eq (by omega) (by omega)).mp q))
        rw [decide_eq_false hl, Bool.toNat_false]
        conv => lhs; rw [zk_M_circles_4]
        simp (disch := first | assumption | exact kr _ rfl | omega | exact Nat.le_of_ble_eq_true rfl) only [xo_5, xo_10_1i, xo_10_1r, xo_10_1n, xo_10_2i, xo_10_2r, xo_10_2n, xo_55, xo_0_2, xo_2_0, xo_17, xo_32, xo_45, zk_M_circles_14, xo_0_1, xo_64_2, xk_v, xk_n, xo_48, zk_M_circles_23, xo_63_1, xo_43, xo_54, zk_M_circles_39, zk_M_circles_40, xo_20, xo_15_2i, xo_15_2r, xo_15_2n, xo_70, nI_add, pk_mul, Nat.add_zero, z_sA_s, z_sA_sA, z_u_s, r9, h0, hlt, zr_M_isNormal, c_M_isNormal hM, hN, zr_M_circleOf, hci, hfi, e1, z_b0, if_true, if_false, eq_self, Bool.true_eq_false, Bool.false_eq_true, and_true, true_and, and_false, false_and, or_true, true_or, or_false, false_or, ne_eq, not_true_eq_false, not_false_eq_true, decide_true, decide_false, z_sA_id]
    · rw [decide_eq_false (fun q => q (c3 hN)), Bool.false_and, Bool.toNat_false]
      conv => lhs; rw [zk_M_circles_4]
      simp (disch := first | assumption | exact kr _ rfl | omega | exact Nat.le_of_ble_eq_true rfl) only [xo_5, xo_10_1i, xo_10_1r, xo_10_1n, xo_10_2i, xo_10_2r, xo_10_2n, xo_55, xo_0_2, xo_2_0, xo_17, xo_32, xo_45, zk_M_circles_14, xo_0_1, xo_64_2, xk_v, xk_n, xo_48, xo_63_1, xo_43, xo_54, zk_M_circles_39, zk_M_circles_40, xo_20, xo_15_2i, xo_15_2r, xo_15_2n, xo_70, nI_add, pk_mul, Nat.add_zero, z_sA_s, z_sA_sA, z_u_s, r9, h0, hlt, zr_M_isNormal, c_M_isNormal hM, hN, z_b0, if_true, if_false, eq_self, Bool.true_eq_false, Bool.false_eq_true, and_true, true_and, and_false, false_and, or_true, true_or, or_false, false_or, ne_eq, not_true_eq_false, not_false_eq_true, decide_true, decide_false, z_sA_id]) n 0 0 (by omega)
  rw [e0, e]
  conv => lhs; rw [zk_M_circles_4]
  simp (disch := first | assumption | exact kr _ rfl | omega | exact Nat.le_of_ble_eq_true rfl) only [xo_5, xo_10_1i, xo_10_1r, xo_10_1n, xo_10_2i, xo_10_2r, xo_10_2n, xo_55, xo_0_2, xo_2_0, xo_17, xo_32, xo_45, xo_0_1, xo_64_2, xk_v, xk_n, xo_48, xo_63_1, xo_43, xo_54, xo_20, xo_15_2i, xo_15_2r, xo_15_2n, zk_M_circles_48, xo_70, nI_add, pk_mul, Nat.add_zero, z_sA_s, z_sA_sA, z_u_s, r9, h0, hltn, if_true, if_false, eq_self, Bool.true_eq_false, Bool.false_eq_true, and_true, true_and, and_false, false_and, or_true, true_or, or_false, false_or, ne_eq, not_true_eq_false, not_false_eq_true, decide_true, decide_false, z_sA_id, f_cs, z_ct]
theorem c_M_sets {G : zG} (hM : z_HM G) (M : zM) {n J B : Nat} (hF : z_F n J B (M 458)) : z_call 214 [.ref 455] G M = some (.inl (some (.int (nI (f_ss n (M 458))))), G, M) := by
  obtain ⟨k0, ⟨r1, r8, r9, r10, r11, r12, r13, r17⟩, ⟨q1, q2⟩, ⟨q3, q4⟩, ⟨q5, q6⟩, ⟨q7, q8⟩, ⟨q9, q10⟩, ⟨q11, q12⟩, ⟨q13, q14⟩, ⟨q15, q16⟩, hp⟩ := id hM; have kr : ∀ a, z_rc a = 7 → z_kd G 455 = (0, z_rc a) := fun a h => (by rw [h]; exact k0)
  have hn : n ≤ 8 := hF.1.1.2
  have h0 : M 458 0 = nI n := hF.1.1.1
  have hltn : ¬ nI n < nI n := nI_nlt (Nat.le_refl _) (by omega)
  have e0 : z_call 214 [.ref 455] G M = z_ex 214 (z_blk 214 4) [.ref 455, .int (nI 0), .int (nI 0)] [] G M := by
    simp only [ze_M_sets, zk_M_sets_0, xo_5, xo_10_1i, xo_10_1r, xo_10_1n, xo_10_2i, xo_10_2r, xo_10_2n, xo_55, xo_0_2, xo_2_0, xo_17, xo_32, xo_45, xo_0_1, xo_64_2, xk_v, xk_n, xo_49, xo_63_1, xo_43, xo_54, xo_20, xo_15_2i, xo_15_2r, xo_15_2n, xo_70]
  have e := z_loop0 (fun i a => z_ex 214 (z_blk 214 4) [.ref 455, .int (nI a), .int (nI i)] [] G M) (fun i a => a + (decide (f_so n (M 458) i ≠ 0) && decide (z_lo (f_so n (M 458) i) = i)).toNat) n (by
    intro i a hi
    have hlt : nI i < nI n := nI_lt hi (by omega)
    obtain ⟨c1, c2, c3⟩ := f_so_t hF hi
    by_cases hN : M 458 (41 + 28 * i) = nI 2
    · rw [decide_eq_false (fun q => q (c3 hN)), Bool.false_and, Bool.toNat_false]
      conv => lhs; rw [zk_M_sets_4]
      simp (disch := first | assumption | exact kr _ rfl | omega | exact Nat.le_of_ble_eq_true rfl) only [xo_5, xo_10_1i, xo_10_1r, xo_10_1n, xo_10_2i, xo_10_2r, xo_10_2n, xo_55, xo_0_2, xo_2_0, xo_17, xo_32, xo_45, zk_M_sets_14, xo_0_1, xo_64_2, xk_v, xk_n, xo_49, xo_63_1, xo_43, xo_54, zk_M_sets_39, zk_M_sets_40, xo_20, xo_15_2i, xo_15_2r, xo_15_2n, xo_70, nI_add, pk_mul, Nat.add_zero, z_sA_s, z_sA_sA, z_u_s, r9, h0, hlt, zr_M_isDown, c_M_isDown hM, hN, z_b0, if_true, if_false, eq_self, Bool.true_eq_false, Bool.false_eq_true, and_true, true_and, and_false, false_and, or_true, true_or, or_false, false_or, ne_eq, not_true_eq_false, not_false_eq_true, decide_true, decide_false, z_sA_id]
    · have hne := c2 hN
      have hci := c_M_setOf hM M (i := i) h0 hn hi
      have hfi := c_M_first G M c1 hne
      rw [decide_eq_true hne, Bool.true_and]
      by_cases hl : z_lo (f_so n (M 458) i) = i
      · have e1 : (nI (z_lo (f_so n (M 458) i)) = nI i) = True := eq_true (by rw [hl])
        rw [decide_eq_true hl, Bool.toNat_true]
        conv => lhs; rw [zk_M_sets_4]
        simp (disch := first | assumption | exact kr _ rfl | omega | exact Nat.le_of_ble_eq_true rfl) only [xo_5, xo_10_1i, xo_10_1r, xo_10_1n, xo_10_2i, xo_10_2r, xo_10_2n, xo_55, xo_0_2, xo_2_0, xo_17, xo_32, xo_45, zk_M_sets_14, xo_0_1, xo_64_2, xk_v, xk_n, xo_49, zk_M_sets_23, xo_63_1, xo_43, zk_M_sets_35, xo_54, zk_M_sets_40, xo_20, xo_15_2i, xo_15_2r, xo_15_2n, xo_70, nI_add, pk_mul, Nat.add_zero, z_sA_s, z_sA_sA, z_u_s, r9, h0, hlt, zr_M_isDown, c_M_isDown hM, hN, zr_M_setOf, hci, hfi, e1, z_b0, if_true, if_false, eq_self, Bool.true_eq_false, Bool.false_eq_true, and_true, true_and, and_false, false_and, or_true, true_or, or_false, false_or, ne_eq, not_true_eq_false, not_false_eq_true, decide_true, decide_false, z_sA_id]
      · have hl8 := (z_loP _ c1 hne).1
        have e1 : (nI (z_lo (f_so n (M 458) i)) = nI i) = False := eq_false (fun q => hl ((nI_eq (by omega) (by omega)).mp q))
        rw [decide_eq_false hl, Bool.toNat_false]
        conv => lhs; rw [zk_M_sets_4]
        simp (disch := first | assumption | exact kr _ rfl | omega | exact Nat.le_of_ble_eq_true rfl) only [xo_5, xo_10_1i, xo_10_1r, xo_10_1n, xo_10_2i, xo_10_2r, xo_10_2n, xo_55, xo_0_2, xo_2_0, xo_17, xo_32, xo_45, zk_M_sets_14, xo_0_1, xo_64_2, xk_v, xk_n, xo_49, zk_M_sets_23, xo_63_1, xo_43, xo_54, zk_M_sets_39, zk_M_sets_40, xo_20, xo_15_2i, xo_15_2r, xo_15_2n, xo_70, nI_add, pk_mul, Nat.add_zero, z_sA_s, z_sA_sA, z_u_s, r9, h0, hlt, zr_M_isDown, c_M_isDown hM, hN, zr_M_setOf, hci, hfi, e1, z_b0, if_true, if_false, eq_self, Bool.true_eq_false, Bool.false_eq_true, and_true, true_and, and_false, false_and, or_true, true_or, or_false, false_or, ne_eq, not_true_eq_false, not_false_eq_true, decide_true, decide_false, z_sA_id]) n 0 0 (by omega)
  rw [e0, e]
  conv => lhs; rw [zk_M_sets_4]
  simp (disch := first | assumption | exact kr _ rfl | omega | exact Nat.le_of_ble_eq_true rfl) only [xo_5, xo_10_1i, xo_10_1r, xo_10_1n, xo_10_2i, xo_10_2r, xo_10_2n, xo_55, xo_0_2, xo_2_0, xo_17, xo_32, xo_45, xo_0_1, xo_64_2, xk_v, xk_n, xo_49, xo_63_1, xo_43, xo_54, xo_20, xo_15_2i, xo_15_2r, xo_15_2n, zk_M_sets_48, xo_70, nI_add, pk_mul, Nat.add_zero, z_sA_s, z_sA_sA, z_u_s, r9, h0, hltn, if_true, if_false, eq_self, Bool.true_eq_false, Bool.false_eq_true, and_true, true_and, and_false, false_and, or_true, true_or, or_false, false_or, ne_eq, not_true_eq_false, not_false_eq_true, decide_true, decide_false, z_sA_id, f_ss, z_ct]
theorem c_S_isFirst (G : zG) (M : zM) {S i : Nat} (hS : S < 256) (hi : i < 8) : z_call 99 [.int (nI S), .int (nI i)] G M = some (.inl (some (.int (z_b (decide (S ≠ 0) && decide (z_lo S = i))))), G, M) := by
  rw [← z_loF S hS i hi]
  by_cases h : nI S &&& -nI S = nI 1 <<< (nI i &&& 31)
  · rw [decide_eq_true h]
    simp only [ze_S_isFirst, zk_S_isFirst_0, xo_0_0, xo_31, xo_23, xo_5, xo_0_1, xo_26, xo_43, zk_S_isFirst_10, xo_54, zk_S_isFirst_14, xo_55, zk_S_isFirst_15, xo_72a, xo_72b, h, if_true, if_false, eq_self, Bool.true_eq_false, Bool.false_eq_true]
    rfl
  · rw [decide_eq_false h]
    simp only [ze_S_isFirst, zk_S_isFirst_0, xo_0_0, xo_31, xo_23, xo_5, xo_0_1, xo_26, xo_43, zk_S_isFirst_10, xo_54, zk_S_isFirst_14, xo_55, zk_S_isFirst_15, xo_72a, xo_72b, h, if_true, if_false, eq_self, Bool.true_eq_false, Bool.false_eq_true]
    rfl
section
variable {G : zG} {b : Nat} {fl : Bool} {kp : Nat × Nat} {n J B Bf : Nat} {V : zM} {s : Nat → Int32} {i : Nat}
theorem s_S_circles (hW : z_HW G b) (M : zM) (h : z_R fl kp n B V s) (hF : z_F n J Bf s) : z_call 98 [.ref b] G (wr M b V) = some (.inl (some (.int (nI (f_cs n s)))), G, wr M b V) := by
  have hn : n ≤ 8 := hF.1.1.2
  have h0 : V 0 0 = nI n := h.1.1.trans hF.1.1.1
  have hltn : ¬ nI n < nI n := nI_nlt (Nat.le_refl _) (by omega)
  have e0 : z_call 98 [.ref b] G (wr M b V) = z_ex 98 (z_blk 98 4) [.ref b, .int (nI 0), .int (nI 0)] [] G (wr M b V) := by
    simp only [ze_S_circles, zk_S_circles_0, xo_5, xo_10_1i, xo_10_1r, xo_10_1n, xo_10_2i, xo_10_2r, xo_10_2n, xo_55, xo_0_2, xo_2_0, xo_16, xo_45, xo_63_2, xk_v, xk_n, xo_48, xo_15_1i, xo_15_1r, xo_15_1n, xo_15_2i, xo_15_2r, xo_15_2n, xo_54, xo_0_1, xo_70]
  have e := z_loop0 (fun i a => z_ex 98 (z_blk 98 4) [.ref b, .int (nI a), .int (nI i)] [] G (wr M b V)) (fun i a => a + (decide (f_ci n s i ≠ 0) && decide (z_lo (f_ci n s i) = i)).toNat) n (by
    intro i a hi
    have hlt : nI i < nI n := nI_lt hi (by omega)
    have hci := s_S_circleOf hW M h hF hi
    have hfi := c_S_isFirst G (wr M b V) (f_ci_t hF hi).1 (show i < 8 by omega)
    cases hb : (decide (f_ci n s i ≠ 0) && decide (z_lo (f_ci n s i) = i))
    · rw [hb] at hfi
      rw [Bool.toNat_false, Nat.add_zero]
      conv => lhs; rw [zk_S_circles_4]
      simp (disch := first | assumption | omega | exact Nat.le_of_ble_eq_true rfl | decide) only [xo_5, xo_10_1i, xo_10_1r, xo_10_1n, xo_10_2i, xo_10_2r, xo_10_2n, xo_55, xo_0_2, xo_2_0, xw_16w hW, xo_45, zk_S_circles_12, xo_63_2, xk_v, xk_n, xo_48, xo_15_1i, xo_15_1r, xo_15_1n, zk_S_circles_27, xo_15_2i, xo_15_2r, xo_15_2n, xo_54, xo_0_1, xo_70, nI_add, pk_mul, Nat.add_zero, h0, hlt, hci, hfi, z_b0, if_true, if_false, eq_self, Bool.true_eq_false, Bool.false_eq_true]
    · rw [hb] at hfi
      rw [Bool.toNat_true]
      conv => lhs; rw [zk_S_circles_4]
      simp (disch := first | assumption | omega | exact Nat.le_of_ble_eq_true rfl | decide) only [xo_5, xo_10_1i, xo_10_1r, xo_10_1n, xo_10_2i, xo_10_2r, xo_10_2n, xo_55, xo_0_2, xo_2_0, xw_16w hW, xo_45, zk_S_circles_12, xo_63_2, xk_v, xk_n, xo_48, zk_S_circles_24, xo_15_1i, xo_15_1r, xo_15_1n, zk_S_circles_27, xo_15_2i, xo_15_2r, xo_15_2n, xo_54, xo_0_1, xo_70, nI_add, pk_mul, Nat.add_zero, h0, hlt, hci, hfi, z_b0, if_true, if_false, eq_self, Bool.true_eq_false, Bool.false_eq_true]) n 0 0 (by omega)
  rw [e0, e]
  conv => lhs; rw [zk_S_circles_4]
  simp (disch := first | assumption | omega | exact Nat.le_of_ble_eq_true rfl | decide) only [xo_5, xo_10_1i, xo_10_1r, xo_10_1n, xo_10_2i, xo_10_2r, xo_10_2n, xo_55, xo_0_2, xo_2_0, xw_16w hW, xo_45, xo_63_2, xk_v, xk_n, xo_48, xo_15_1i, xo_15_1r, xo_15_1n, xo_15_2i, xo_15_2r, xo_15_2n, xo_54, zk_S_circles_33, xo_0_1, xo_70, nI_add, pk_mul, Nat.add_zero, h0, hltn, if_true, if_false, eq_self, Bool.true_eq_false, Bool.false_eq_true, f_cs, z_ct]
theorem s_S_sets (hW : z_HW G b) (M : zM) (h : z_R fl kp n B V s) (hF : z_F n J Bf s) : z_call 100 [.ref b] G (wr M b V) = some (.inl (some (.int (nI (f_ss n s)))), G, wr M b V) := by
  have hn : n ≤ 8 := hF.1.1.2
  have h0 : V 0 0 = nI n := h.1.1.trans hF.1.1.1
  have hltn : ¬ nI n < nI n := nI_nlt (Nat.le_refl _) (by omega)
  have e0 : z_call 100 [.ref b] G (wr M b V) = z_ex 100 (z_blk 100 4) [.ref b, .int (nI 0), .int (nI 0)] [] G (wr M b V) := by
    simp only [ze_S_sets, zk_S_sets_0, xo_5, xo_10_1i, xo_10_1r, xo_10_1n, xo_10_2i, xo_10_2r, xo_10_2n, xo_55, xo_0_2, xo_2_0, xo_16, xo_45, xo_63_2, xk_v, xk_n, xo_48, xo_15_1i, xo_15_1r, xo_15_1n, xo_15_2i, xo_15_2r, xo_15_2n, xo_54, xo_0_1, xo_70]
  have e := z_loop0 (fun i a => z_ex 100 (z_blk 100 4) [.ref b, .int (nI a), .int (nI i)] [] G (wr M b V)) (fun i a => a + (decide (f_so n s i ≠ 0) && decide (z_lo (f_so n s i) = i)).toNat) n (by
    intro i a hi
    have hlt : nI i < nI n := nI_lt hi (by omega)
    have hci := s_S_setOf hW M h hF hi
    have hfi := c_S_isFirst G (wr M b V) (f_so_t hF hi).1 (show i < 8 by omega)
    cases hb : (decide (f_so n s i ≠ 0) && decide (z_lo (f_so n s i) = i))
    · rw [hb] at hfi
      rw [Bool.toNat_false, Nat.add_zero]
      conv => lhs; rw [zk_S_sets_4]
      simp (disch := first | assumption | omega | exact Nat.le_of_ble_eq_true rfl | decide) only [xo_5, xo_10_1i, xo_10_1r, xo_10_1n, xo_10_2i, xo_10_2r, xo_10_2n, xo_55, xo_0_2, xo_2_0, xw_16w hW, xo_45, zk_S_sets_12, xo_63_2, xk_v, xk_n, xo_48, xo_15_1i, xo_15_1r, xo_15_1n, zk_S_sets_27, xo_15_2i, xo_15_2r, xo_15_2n, xo_54, xo_0_1, xo_70, nI_add, pk_mul, Nat.add_zero, h0, hlt, hci, hfi, z_b0, if_true, if_false, eq_self, Bool.true_eq_false, Bool.false_eq_true]
    · rw [hb] at hfi
      rw [Bool.toNat_true]
      conv => lhs; rw [zk_S_sets_4]
      simp (disch := first | assumption | omega | exact Nat.le_of_ble_eq_true rfl | decide) only [xo_5, xo_10_1i, xo_10_1r, xo_10_1n, xo_10_2i, xo_10_2r, xo_10_2n, xo_55, xo_0_2, xo_2_0, xw_16w hW, xo_45, zk_S_sets_12, xo_63_2, xk_v, xk_n, xo_48, zk_S_sets_24, xo_15_1i, xo_15_1r, xo_15_1n, zk_S_sets_27, xo_15_2i, xo_15_2r, xo_15_2n, xo_54, xo_0_1, xo_70, nI_add, pk_mul, Nat.add_zero, h0, hlt, hci, hfi, z_b0, if_true, if_false, eq_self, Bool.true_eq_false, Bool.false_eq_true]) n 0 0 (by omega)
  rw [e0, e]
  conv => lhs; rw [zk_S_sets_4]
  simp (disch := first | assumption | omega | exact Nat.le_of_ble_eq_true rfl | decide) only [xo_5, xo_10_1i, xo_10_1r, xo_10_1n, xo_10_2i, xo_10_2r, xo_10_2n, xo_55, xo_0_2, xo_2_0, xw_16w hW, xo_45, xo_63_2, xk_v, xk_n, xo_48, xo_15_1i, xo_15_1r, xo_15_1n, xo_15_2i, xo_15_2r, xo_15_2n, xo_54, zk_S_sets_33, xo_0_1, xo_70, nI_add, pk_mul, Nat.add_zero, h0, hltn, if_true, if_false, eq_self, Bool.true_eq_false, Bool.false_eq_true, f_ss, z_ct]
end
def f_wo (n : Nat) (s : Nat → Int32) (k : Nat) : Int32 := z_fd (fun i a => a + s (41 + 28 * i + (14 + k))) n 0 (nI 0)
def f_go (n : Nat) (s : Nat → Int32) (k : Nat) : Int32 := z_fd (fun i a => if s (41 + 28 * i + (8 + k)) < a then a else s (41 + 28 * i + (8 + k))) n 0 (nI 0)
def f_tw (n J : Nat) (s : Nat → Int32) : Int32 := z_fd (fun k a => a + (f_wo n s k - f_go n s k)) J 0 (nI 0)
theorem c_M_workOf {G : zG} (hM : z_HM G) (M : zM) {n k : Nat} (h0 : M 458 0 = nI n) (hn : n ≤ 8) (hk : k < 6) : z_call 219 [.ref 455, .int (nI k)] G M = some (.inl (some (.int (f_wo n (M 458) k))), G, M) := by
  obtain ⟨k0, ⟨r1, r8, r9, r10, r11, r12, r13, r17⟩, ⟨q1, q2⟩, ⟨q3, q4⟩, ⟨q5, q6⟩, ⟨q7, q8⟩, ⟨q9, q10⟩, ⟨q11, q12⟩, ⟨q13, q14⟩, ⟨q15, q16⟩, hp⟩ := id hM; have kr : ∀ a, z_rc a = 7 → z_kd G 455 = (0, z_rc a) := fun a h => (by rw [h]; exact k0)
  have hltn : ¬ nI n < nI n := nI_nlt (Nat.le_refl _) (by omega)
  have e0 : z_call 219 [.ref 455, .int (nI k)] G M = z_ex 219 (z_blk 219 4) [.ref 455, .int (nI k), .int (nI 0), .int (nI 0)] [] G M := by
    simp only [ze_M_workOf, zk_M_workOf_0, xo_5, xo_10_2i, xo_10_2r, xo_10_2n, xo_10_3i, xo_10_3r, xo_10_3n, xo_55, xo_0_3, xo_2_0, xo_17, xo_32, xo_45, xo_0_2, xo_6, xo_0_1, xo_20, xo_63_2, xk_v, xk_n, xo_15_3i, xo_15_3r, xo_15_3n, xo_54, xo_70]
  have e := z_loop0 (fun i a => z_ex 219 (z_blk 219 4) [.ref 455, .int (nI k), .int a, .int (nI i)] [] G M) (fun i a => a + M 458 (41 + 28 * i + (14 + k))) n (by
    intro i a hi
    have hlt : nI i < nI n := nI_lt hi (by omega)
    conv => lhs; rw [zk_M_workOf_4]
    simp (disch := first | assumption | exact kr _ rfl | omega | exact Nat.le_of_ble_eq_true rfl) only [xo_5, xo_10_2i, xo_10_2r, xo_10_2n, xo_10_3i, xo_10_3r, xo_10_3n, xo_55, xo_0_3, xo_2_0, xo_17, xo_32, xo_45, zk_M_workOf_14, xo_0_2, xo_6, xo_0_1, xo_20, xo_63_2, xk_v, xk_n, xo_15_3i, xo_15_3r, xo_15_3n, xo_54, xo_70, nI_add, pk_mul, Nat.add_zero, z_sA_s, z_sA_sA, z_u_s, r9, c_M_m, h0, hlt, if_true, if_false, eq_self, Bool.true_eq_false, Bool.false_eq_true, and_true, true_and, and_false, false_and, or_true, true_or, or_false, false_or, ne_eq, not_true_eq_false, not_false_eq_true, decide_true, decide_false, z_sA_id]) n 0 (nI 0) (by omega)
  rw [e0, e]
  conv => lhs; rw [zk_M_workOf_4]
  simp (disch := first | assumption | exact kr _ rfl | omega | exact Nat.le_of_ble_eq_true rfl) only [xo_5, xo_10_2i, xo_10_2r, xo_10_2n, xo_10_3i, xo_10_3r, xo_10_3n, xo_55, xo_0_3, xo_2_0, xo_17, xo_32, xo_45, xo_0_2, xo_6, xo_0_1, xo_20, xo_63_2, xk_v, xk_n, xo_15_3i, xo_15_3r, xo_15_3n, xo_54, zk_M_workOf_36, xo_70, nI_add, pk_mul, Nat.add_zero, z_sA_s, z_sA_sA, z_u_s, r9, h0, hltn, if_true, if_false, eq_self, Bool.true_eq_false, Bool.false_eq_true, and_true, true_and, and_false, false_and, or_true, true_or, or_false, false_or, ne_eq, not_true_eq_false, not_false_eq_true, decide_true, decide_false, z_sA_id, f_wo]
theorem c_M_greatestOf {G : zG} (hM : z_HM G) (M : zM) {n k : Nat} (h0 : M 458 0 = nI n) (hn : n ≤ 8) (hk : k < 6) : z_call 220 [.ref 455, .int (nI k)] G M = some (.inl (some (.int (f_go n (M 458) k))), G, M) := by
  obtain ⟨k0, ⟨r1, r8, r9, r10, r11, r12, r13, r17⟩, ⟨q1, q2⟩, ⟨q3, q4⟩, ⟨q5, q6⟩, ⟨q7, q8⟩, ⟨q9, q10⟩, ⟨q11, q12⟩, ⟨q13, q14⟩, ⟨q15, q16⟩, hp⟩ := id hM; have kr : ∀ a, z_rc a = 7 → z_kd G 455 = (0, z_rc a) := fun a h => (by rw [h]; exact k0)
  have hltn : ¬ nI n < nI n := nI_nlt (Nat.le_refl _) (by omega)
  have e0 : z_call 220 [.ref 455, .int (nI k)] G M = z_ex 220 (z_blk 220 4) [.ref 455, .int (nI k), .int (nI 0), .int (nI 0)] [] G M := by
    simp only [ze_M_greatestOf, zk_M_greatestOf_0, xo_5, xo_10_2i, xo_10_2r, xo_10_2n, xo_10_3i, xo_10_3r, xo_10_3n, xo_55, xo_0_3, xo_2_0, xo_17, xo_32, xo_45, xo_0_2, xo_6, xo_0_1, xo_20, xo_63_2, xk_v, xk_n, xo_15_3i, xo_15_3r, xo_15_3n, xo_54, xo_70]
  have e := z_loop0 (fun i a => z_ex 220 (z_blk 220 4) [.ref 455, .int (nI k), .int a, .int (nI i)] [] G M) (fun i a => if M 458 (41 + 28 * i + (8 + k)) < a then a else M 458 (41 + 28 * i + (8 + k))) n (by
    intro i a hi
    have hlt : nI i < nI n := nI_lt hi (by omega)
    conv => lhs; rw [zk_M_greatestOf_4]
    simp (disch := first | assumption | exact kr _ rfl | omega | exact Nat.le_of_ble_eq_true rfl) only [xo_5, xo_10_2i, xo_10_2r, xo_10_2n, xo_10_3i, xo_10_3r, xo_10_3n, xo_55, xo_0_3, xo_2_0, xo_17, xo_32, xo_45, zk_M_greatestOf_14, xo_0_2, xo_6, xo_0_1, xo_20, xo_63_2, xk_v, xk_n, xo_15_3i, xo_15_3r, xo_15_3n, xo_54, xo_70, nI_add, pk_mul, Nat.add_zero, z_sA_s, z_sA_sA, z_u_s, r9, c_M_m, c_M_more, h0, hlt, if_true, if_false, eq_self, Bool.true_eq_false, Bool.false_eq_true, and_true, true_and, and_false, false_and, or_true, true_or, or_false, false_or, ne_eq, not_true_eq_false, not_false_eq_true, decide_true, decide_false, z_sA_id]) n 0 (nI 0) (by omega)
  rw [e0, e]
  conv => lhs; rw [zk_M_greatestOf_4]
  simp (disch := first | assumption | exact kr _ rfl | omega | exact Nat.le_of_ble_eq_true rfl) only [xo_5, xo_10_2i, xo_10_2r, xo_10_2n, xo_10_3i, xo_10_3r, xo_10_3n, xo_55, xo_0_3, xo_2_0, xo_17, xo_32, xo_45, xo_0_2, xo_6, xo_0_1, xo_20, xo_63_2, xk_v, xk_n, xo_15_3i, xo_15_3r, xo_15_3n, xo_54, zk_M_greatestOf_38, xo_70, nI_add, pk_mul, Nat.add_zero, z_sA_s, z_sA_sA, z_u_s, r9, h0, hltn, if_true, if_false, eq_self, Bool.true_eq_false, Bool.false_eq_true, and_true, true_and, and_false, false_and, or_true, true_or, or_false, false_or, ne_eq, not_true_eq_false, not_false_eq_true, decide_true, decide_false, z_sA_id, f_go]
theorem c_M_twice {G : zG} (hM : z_HM G) (M : zM) {n J : Nat} (h0 : M 458 0 = nI n) (hn : n ≤ 8) (hJ : M 458 1 = nI J) (hJ6 : J ≤ 6) : z_call 218 [.ref 455] G M = some (.inl (some (.int (f_tw n J (M 458)))), G, M) := by
  obtain ⟨k0, ⟨r1, r8, r9, r10, r11, r12, r13, r17⟩, ⟨q1, q2⟩, ⟨q3, q4⟩, ⟨q5, q6⟩, ⟨q7, q8⟩, ⟨q9, q10⟩, ⟨q11, q12⟩, ⟨q13, q14⟩, ⟨q15, q16⟩, hp⟩ := id hM; have kr : ∀ a, z_rc a = 7 → z_kd G 455 = (0, z_rc a) := fun a h => (by rw [h]; exact k0)
  have hltn : ¬ nI J < nI J := nI_nlt (Nat.le_refl _) (by omega)
  have e0 : z_call 218 [.ref 455] G M = z_ex 218 (z_blk 218 4) [.ref 455, .int (nI 0), .int (nI 0)] [] G M := by
    simp only [ze_M_twice, zk_M_twice_0, xo_5, xo_10_1i, xo_10_1r, xo_10_1n, xo_10_2i, xo_10_2r, xo_10_2n, xo_55, xo_0_2, xo_2_0, xo_17, xo_32, xo_45, xo_0_1, xo_64_2, xk_v, xk_n, xo_21, xo_20, xo_15_2i, xo_15_2r, xo_15_2n, xo_54, xo_70]
  have e := z_loop0 (fun k a => z_ex 218 (z_blk 218 4) [.ref 455, .int a, .int (nI k)] [] G M) (fun k a => a + (f_wo n (M 458) k - f_go n (M 458) k)) J (by
    intro k a hk
    have hlt : nI k < nI J := nI_lt hk (by omega)
    have hw := c_M_workOf hM M (k := k) h0 hn (by omega)
    have hg := c_M_greatestOf hM M (k := k) h0 hn (by omega)
    conv => lhs; rw [zk_M_twice_4]
    simp (disch := first | assumption | exact kr _ rfl | omega | exact Nat.le_of_ble_eq_true rfl) only [xo_5, xo_10_1i, xo_10_1r, xo_10_1n, xo_10_2i, xo_10_2r, xo_10_2n, xo_55, xo_0_2, xo_2_0, xo_17, xo_32, xo_45, zk_M_twice_14, xo_0_1, xo_64_2, xk_v, xk_n, xo_21, xo_20, xo_15_2i, xo_15_2r, xo_15_2n, xo_54, xo_70, nI_add, pk_mul, Nat.add_zero, z_sA_s, z_sA_sA, z_u_s, r9, hJ, hlt, zr_M_workOf, zr_M_greatestOf, hw, hg, if_true, if_false, eq_self, Bool.true_eq_false, Bool.false_eq_true, and_true, true_and, and_false, false_and, or_true, true_or, or_false, false_or, ne_eq, not_true_eq_false, not_false_eq_true, decide_true, decide_false, z_sA_id]) J 0 (nI 0) (by omega)
  rw [e0, e]
  conv => lhs; rw [zk_M_twice_4]
  simp (disch := first | assumption | exact kr _ rfl | omega | exact Nat.le_of_ble_eq_true rfl) only [xo_5, xo_10_1i, xo_10_1r, xo_10_1n, xo_10_2i, xo_10_2r, xo_10_2n, xo_55, xo_0_2, xo_2_0, xo_17, xo_32, xo_45, xo_0_1, xo_64_2, xk_v, xk_n, xo_21, xo_20, xo_15_2i, xo_15_2r, xo_15_2n, xo_54, zk_M_twice_34, xo_70, nI_add, pk_mul, Nat.add_zero, z_sA_s, z_sA_sA, z_u_s, r9, hJ, hltn, if_true, if_false, eq_self, Bool.true_eq_false, Bool.false_eq_true, and_true, true_and, and_false, false_and, or_true, true_or, or_false, false_or, ne_eq, not_true_eq_false, not_false_eq_true, decide_true, decide_false, z_sA_id, f_tw]
section
variable {G : zG} {b : Nat} {kp : Nat × Nat} {n J B Bf : Nat} {V : zM} {s : Nat → Int32} {k : Nat}
theorem s_S_workOf (hW : z_HW G b) (M : zM) (h : z_R true kp n B V s) (hF : z_F n J Bf s) (hk : k < 6) : z_call 103 [.ref b, .int (nI k)] G (wr M b V) = some (.inl (some (.int (f_wo n s k))), G, wr M b V) := by
  have hn : n ≤ 8 := hF.1.1.2
  have h0 : V 0 0 = nI n := h.1.1.trans hF.1.1.1
  have hltn : ¬ nI n < nI n := nI_nlt (Nat.le_refl _) (by omega)
  have e0 : z_call 103 [.ref b, .int (nI k)] G (wr M b V) = z_ex 103 (z_blk 103 4) [.ref b, .int (nI k), .int (nI 0), .int (nI 0)] [] G (wr M b V) := by
    simp only [ze_S_workOf, zk_S_workOf_0, xo_5, xo_10_2i, xo_10_2r, xo_10_2n, xo_10_3i, xo_10_3r, xo_10_3n, xo_55, xo_0_3, xo_2_0, xo_16, xo_45, xo_0_2, xo_17, xo_34, xo_0_1, xo_32, xo_20, xo_15_3i, xo_15_3r, xo_15_3n, xo_54, xo_70]
  have e := z_loop0 (fun i a => z_ex 103 (z_blk 103 4) [.ref b, .int (nI k), .int a, .int (nI i)] [] G (wr M b V)) (fun i a => a + s (41 + 28 * i + (14 + k))) n (by
    intro i a hi
    have hi8 : i < 8 := by omega
    have hlt : nI i < nI n := nI_lt hi (by omega)
    have hw := (h.2.2.2.1 rfl i hi).2.1 k hk
    conv => lhs; rw [zk_S_workOf_4]
    simp (disch := first | assumption | omega | exact Nat.le_of_ble_eq_true rfl | decide) only [xo_5, xo_10_2i, xo_10_2r, xo_10_2n, xo_10_3i, xo_10_3r, xo_10_3n, xo_55, xo_0_3, xo_2_0, xw_16w hW, xo_45, zk_S_workOf_12, xo_0_2, xw_17w_5 hW, xw_17b_13 hW, xw_34 hW, xo_0_1, xw_32_k hW, xo_20, xo_15_3i, xo_15_3r, xo_15_3n, xo_54, xo_70, nI_add, pk_mul, Nat.add_zero, h0, hlt, hw, if_true, if_false, eq_self, Bool.true_eq_false, Bool.false_eq_true]) n 0 (nI 0) (by omega)
  rw [e0, e]
  conv => lhs; rw [zk_S_workOf_4]
  simp (disch := first | assumption | omega | exact Nat.le_of_ble_eq_true rfl | decide) only [xo_5, xo_10_2i, xo_10_2r, xo_10_2n, xo_10_3i, xo_10_3r, xo_10_3n, xo_55, xo_0_3, xo_2_0, xw_16w hW, xo_45, xo_0_2, xw_17w_5 hW, xw_17b_13 hW, xw_34 hW, xo_0_1, xw_32_k hW, xo_20, xo_15_3i, xo_15_3r, xo_15_3n, xo_54, zk_S_workOf_32, xo_70, nI_add, pk_mul, Nat.add_zero, h0, hltn, if_true, if_false, eq_self, Bool.true_eq_false, Bool.false_eq_true, f_wo]
theorem z_max_eq (x y : Int32) : (if x < y then y else x) = (if y < x then x else y) := by
  by_cases h1 : x < y
  · rw [if_pos h1, if_neg (Int32.lt_asymm h1)]
  · rw [if_neg h1]
    by_cases h2 : y < x
    · rw [if_pos h2]
    · rw [if_neg h2]; exact Int32.le_antisymm (Int32.not_lt.mp h2) (Int32.not_lt.mp h1)
theorem s_S_greatestLedger (hW : z_HW G b) (M : zM) (h : z_R true kp n B V s) (hF : z_F n J Bf s) (hk : k < 6) : z_call 104 [.ref b, .int (nI k)] G (wr M b V) = some (.inl (some (.int (f_go n s k))), G, wr M b V) := by
  have hn : n ≤ 8 := hF.1.1.2
  have h0 : V 0 0 = nI n := h.1.1.trans hF.1.1.1
  have hltn : ¬ nI n < nI n := nI_nlt (Nat.le_refl _) (by omega)
  have e0 : z_call 104 [.ref b, .int (nI k)] G (wr M b V) = z_ex 104 (z_blk 104 4) [.ref b, .int (nI k), .int (nI 0), .int (nI 0)] [] G (wr M b V) := by
    simp only [ze_S_greatestLedger, zk_S_greatestLedger_0, xo_5, xo_10_2i, xo_10_2r, xo_10_2n, xo_10_3i, xo_10_3r, xo_10_3n, xo_55, xo_0_3, xo_2_0, xo_16, xo_45, xo_0_2, xo_17, xo_34, xo_0_1, xo_32, xo_86, xo_15_3i, xo_15_3r, xo_15_3n, xo_54, xo_70]
  have e := z_loop0 (fun i a => z_ex 104 (z_blk 104 4) [.ref b, .int (nI k), .int a, .int (nI i)] [] G (wr M b V)) (fun i a => if s (41 + 28 * i + (8 + k)) < a then a else s (41 + 28 * i + (8 + k))) n (by
    intro i a hi
    have hi8 : i < 8 := by omega
    have hlt : nI i < nI n := nI_lt hi (by omega)
    have hw := (h.2.2.2.1 rfl i hi).1 k hk
    have hm := z_max_eq a (s (41 + 28 * i + (8 + k)))
    conv => lhs; rw [zk_S_greatestLedger_4]
    simp (disch := first | assumption | omega | exact Nat.le_of_ble_eq_true rfl | decide) only [xo_5, xo_10_2i, xo_10_2r, xo_10_2n, xo_10_3i, xo_10_3r, xo_10_3n, xo_55, xo_0_3, xo_2_0, xw_16w hW, xo_45, zk_S_greatestLedger_12, xo_0_2, xw_17w_5 hW, xw_17b_12 hW, xw_34 hW, xo_0_1, xw_32_l hW, xo_86, xo_15_3i, xo_15_3r, xo_15_3n, xo_54, xo_70, nI_add, pk_mul, Nat.add_zero, h0, hlt, hw, hm, if_true, if_false, eq_self, Bool.true_eq_false, Bool.false_eq_true]) n 0 (nI 0) (by omega)
  rw [e0, e]
  conv => lhs; rw [zk_S_greatestLedger_4]
  simp (disch := first | assumption | omega | exact Nat.le_of_ble_eq_true rfl | decide) only [xo_5, xo_10_2i, xo_10_2r, xo_10_2n, xo_10_3i, xo_10_3r, xo_10_3n, xo_55, xo_0_3, xo_2_0, xw_16w hW, xo_45, xo_0_2, xw_17w_5 hW, xw_17b_12 hW, xw_34 hW, xo_0_1, xw_32_l hW, xo_86, xo_15_3i, xo_15_3r, xo_15_3n, xo_54, zk_S_greatestLedger_34, xo_70, nI_add, pk_mul, Nat.add_zero, h0, hltn, if_true, if_false, eq_self, Bool.true_eq_false, Bool.false_eq_true, f_go]
theorem s_S_twice (hW : z_HW G b) (M : zM) (h : z_R true kp n B V s) (hF : z_F n J Bf s) : z_call 102 [.ref b] G (wr M b V) = some (.inl (some (.int (f_tw n J s))), G, wr M b V) := by
  have hn : n ≤ 8 := hF.1.1.2
  obtain ⟨hJ, hJ1, hJ6⟩ := hF.2.2.1
  have h01 : V 0 1 = nI J := h.1.2.1.trans hJ
  have hltn : ¬ nI J < nI J := nI_nlt (Nat.le_refl _) (by omega)
  have e0 : z_call 102 [.ref b] G (wr M b V) = z_ex 102 (z_blk 102 4) [.ref b, .int (nI 0), .int (nI 0)] [] G (wr M b V) := by
    simp only [ze_S_twice, zk_S_twice_0, xo_5, xo_10_1i, xo_10_1r, xo_10_1n, xo_10_2i, xo_10_2r, xo_10_2n, xo_55, xo_0_2, xo_2_0, xo_16, xo_45, xo_0_1, xo_63_2, xk_v, xk_n, xo_21, xo_20, xo_15_2i, xo_15_2r, xo_15_2n, xo_54, xo_70]
  have e := z_loop0 (fun k a => z_ex 102 (z_blk 102 4) [.ref b, .int a, .int (nI k)] [] G (wr M b V)) (fun k a => a + (f_wo n s k - f_go n s k)) J (by
    intro k a hk
    have hlt : nI k < nI J := nI_lt hk (by omega)
    have hw := s_S_workOf hW M h hF (k := k) (by omega)
    have hg := s_S_greatestLedger hW M h hF (k := k) (by omega)
    conv => lhs; rw [zk_S_twice_4]
    simp (disch := first | assumption | omega | exact Nat.le_of_ble_eq_true rfl | decide) only [xo_5, xo_10_1i, xo_10_1r, xo_10_1n, xo_10_2i, xo_10_2r, xo_10_2n, xo_55, xo_0_2, xo_2_0, xw_16w hW, xo_45, zk_S_twice_12, xo_0_1, xo_63_2, xk_v, xk_n, xo_21, xo_20, xo_15_2i, xo_15_2r, xo_15_2n, xo_54, xo_70, nI_add, pk_mul, Nat.add_zero, h01, hlt, hw, hg, if_true, if_false, eq_self, Bool.true_eq_false, Bool.false_eq_true]) J 0 (nI 0) (by omega)
  rw [e0, e]
  conv => lhs; rw [zk_S_twice_4]
  simp (disch := first | assumption | omega | exact Nat.le_of_ble_eq_true rfl | decide) only [xo_5, xo_10_1i, xo_10_1r, xo_10_1n, xo_10_2i, xo_10_2r, xo_10_2n, xo_55, xo_0_2, xo_2_0, xw_16w hW, xo_45, xo_0_1, xo_63_2, xk_v, xk_n, xo_21, xo_20, xo_15_2i, xo_15_2r, xo_15_2n, xo_54, zk_S_twice_32, xo_70, nI_add, pk_mul, Nat.add_zero, h01, hltn, if_true, if_false, eq_self, Bool.true_eq_false, Bool.false_eq_true, f_tw]
end
