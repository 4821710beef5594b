/-! ===== the reference: counting, parts, works ===== -/
def z_ct (P : Nat → Bool) (n : Nat) : Nat := z_fd (fun o a => a + (P o).toNat) n 0 0
theorem z_ct_s (P : Nat → Bool) (n : Nat) : z_ct P (n + 1) = z_ct P n + (P n).toNat := by
  unfold z_ct; rw [z_fd_r, Nat.zero_add]
theorem z_ct_le (P : Nat → Bool) : ∀ n, z_ct P n ≤ n
  | 0 => Nat.le_refl 0
  | n + 1 => by
    rw [z_ct_s]
    have h1 := z_ct_le P n
    have h2 : (P n).toNat ≤ 1 := Bool.toNat_le _
    omega
theorem z_ct_congr {P Q : Nat → Bool} (n : Nat) (h : ∀ k, k < n → P k = Q k) : z_ct P n = z_ct Q n :=
  z_fd_congr n 0 0 (fun j a _ hj => by rw [h j (by omega)])
def f_gr (n : Nat) (s : Nat → Int32) (i : Nat) (set : Int32) : Nat := z_ct (fun o => zf_has set (nI o) && decide (s (33 + i) < s (33 + o))) n
theorem c_M_greaterOf {G : zG} (hM : z_HM G) (M : zM) {n i : Nat} (h0 : M 458 0 = nI n) (hn : n ≤ 8) (hi : i < 8) (set : Int32) : z_call 194 [.ref 455, .int (nI i), .int set] G M = some (.inl (some (.int (nI (f_gr n (M 458) i set)))), G, M) := by
  obtain ⟨k0, ⟨r1, r8, r9, r10, r11, r12, r13, r17⟩, ⟨q1, q2⟩, ⟨q3, q4⟩, ⟨q5, q6⟩, ⟨q7, q8⟩, ⟨q9, q10⟩, ⟨q11, q12⟩, ⟨q13, q14⟩, ⟨q15, q16⟩, hp⟩ := id hM; have kr : ∀ a, z_rc a = 7 → z_kd G 455 = (0, z_rc a) := fun a h => by rw [h]; exact k0
  have e := z_loop0 (fun o a => z_ex 194 (z_blk 194 5) [.ref 455, .int (nI i), .int set, .int (nI a), .int (nI o)] [] G M) (fun o a => a + (zf_has set (nI o) && decide (M 458 (33 + i) < M 458 (33 + o))).toNat) n (by
    intro o a ho
    have hlt : nI o < nI n := nI_lt ho (by omega)
    cases hh : zf_has set (nI o)
    · conv => lhs; rw [zk_M_greaterOf_5]
      simp (disch := first | assumption | exact kr _ rfl | omega | exact Nat.le_of_ble_eq_true rfl) only [xo_5, xo_10_3i, xo_10_3r, xo_10_3n, xo_11_4i, xo_11_4r, xo_11_4n, xo_55, xo_1_4, xo_2_0, xo_17, xo_32, xo_45, zk_M_greaterOf_16, xo_0_3, xo_0_2, xo_63_2, xk_v, xk_n, xo_48, xo_6, xo_20, xo_0_1, xo_47, xo_54, zk_M_greaterOf_52, zk_M_greaterOf_53, xo_15_4i, xo_15_4r, xo_15_4n, xo_70, nI_add, pk_mul, Nat.add_zero, z_sA_s, z_sA_sA, z_u_s, r9, h0, hlt, if_true, if_false, eq_self, Bool.true_eq_false, Bool.false_eq_true, c_M_has, hh, z_b0, Bool.false_and, Bool.toNat_false]
    · by_cases hr : M 458 (33 + i) < M 458 (33 + o)
      · conv => lhs; rw [zk_M_greaterOf_5]
        simp (disch := first | assumption | exact kr _ rfl | omega | exact Nat.le_of_ble_eq_true rfl) only [xo_5, xo_10_3i, xo_10_3r, xo_10_3n, xo_11_4i, xo_11_4r, xo_11_4n, xo_55, xo_1_4, xo_2_0, xo_17, xo_32, xo_45, zk_M_greaterOf_16, xo_0_3, xo_0_2, xo_63_2, xk_v, xk_n, xo_48, zk_M_greaterOf_26, xo_6, xo_20, xo_0_1, xo_47, zk_M_greaterOf_48, xo_54, zk_M_greaterOf_53, xo_15_4i, xo_15_4r, xo_15_4n, xo_70, nI_add, pk_mul, Nat.add_zero, z_sA_s, z_sA_sA, z_u_s, r9, h0, hlt, if_true, if_false, eq_self, Bool.true_eq_false, Bool.false_eq_true, c_M_has, hh, z_b0, Bool.true_and, hr, decide_true, Bool.toNat_true]
      · conv => lhs; rw [zk_M_greaterOf_5]
        simp (disch := first | assumption | exact kr _ rfl | omega | exact Nat.le_of_ble_eq_true rfl) only [xo_5, xo_10_3i, xo_10_3r, xo_10_3n, xo_11_4i, xo_11_4r, xo_11_4n, xo_55, xo_1_4, xo_2_0, xo_17, xo_32, xo_45, zk_M_greaterOf_16, xo_0_3, xo_0_2, xo_63_2, xk_v, xk_n, xo_48, zk_M_greaterOf_26, xo_6, xo_20, xo_0_1, xo_47, xo_54, zk_M_greaterOf_52, zk_M_greaterOf_53, xo_15_4i, xo_15_4r, xo_15_4n, xo_70, nI_add, pk_mul, Nat.add_zero, z_sA_s, z_sA_sA, z_u_s, r9, h0, hlt, if_true, if_false, eq_self, Bool.true_eq_false, Bool.false_eq_true, c_M_has, hh, z_b0, Bool.true_and, hr, decide_false, Bool.toNat_false]) n 0 0 (by omega)
  have hlt : ¬ nI n < nI n := nI_nlt (Nat.le_refl _) (by omega)
  have e2 : z_call 194 [.ref 455, .int (nI i), .int set] G M = z_ex 194 (z_blk 194 5) [.ref 455, .int (nI i), .int set, .int (nI 0), .int (nI 0)] [] G M := by
    simp only [ze_M_greaterOf, zk_M_greaterOf_0, xo_5, xo_10_3i, xo_10_3r, xo_10_3n, xo_11_4i, xo_11_4r, xo_11_4n, xo_55, xo_1_4, xo_2_0, xo_17, xo_32, xo_45, xo_0_3, xo_0_2, xo_63_2, xk_v, xk_n, xo_48, xo_6, xo_20, xo_0_1, xo_47, xo_54, xo_15_4i, xo_15_4r, xo_15_4n, xo_70]
  rw [e2]
  refine e.trans ?_
  conv => lhs; rw [zk_M_greaterOf_5]
  simp (disch := first | assumption | exact kr _ rfl | omega | exact Nat.le_of_ble_eq_true rfl) only [xo_5, xo_10_3i, xo_10_3r, xo_10_3n, xo_11_4i, xo_11_4r, xo_11_4n, xo_55, xo_1_4, xo_2_0, xo_17, xo_32, xo_45, xo_0_3, xo_0_2, xo_63_2, xk_v, xk_n, xo_48, xo_6, xo_20, xo_0_1, xo_47, xo_54, xo_15_4i, xo_15_4r, xo_15_4n, zk_M_greaterOf_61, xo_70, nI_add, pk_mul, Nat.add_zero, z_sA_s, z_sA_sA, z_u_s, r9, h0, hlt, if_true, if_false, eq_self, Bool.true_eq_false, Bool.false_eq_true, f_gr, z_ct]
/-- how many of eight bits are set -/
def z_pc (k : Nat) : Nat := k % 2 + k / 2 % 2 + k / 4 % 2 + k / 8 % 2 + k / 16 % 2 + k / 32 % 2 + k / 64 % 2 + k / 128 % 2
theorem z_pc_step : ∀ k, k < 256 → k ≠ 0 → nI k &&& (nI k - nI 1) = nI (k &&& (k - 1)) ∧ (k &&& (k - 1)) < k ∧ z_pc k = z_pc (k &&& (k - 1)) + 1 := by decide +kernel
theorem c_M_ones (G : zG) (M : zM) {k : Nat} (hk : k < 256) : z_call 198 [.int (nI k)] G M = some (.inl (some (.int (nI (z_pc k)))), G, M) := by
  have e : ∀ d k a, k < d → k < 256 → ∀ v : Int32, z_ex 198 (z_blk 198 4) [.int v, .int (nI a), .int (nI k)] [] G M = some (.inl (some (.int (nI (a + z_pc k)))), G, M) := by
    intro d
    induction d with
    | zero => intro k a h; omega
    | succ d ih =>
      intro k a h h256 v
      by_cases h0 : k = 0
      · subst h0
        conv => lhs; rw [zk_M_ones_4]
        simp only [xo_5, xo_10_1i, xo_10_1r, xo_10_1n, xo_0_0, xo_10_2i, xo_10_2r, xo_10_2n, xo_55, xo_0_2, xo_48, xo_15_1i, xo_15_1r, xo_15_1n, xo_21, xo_23, xo_54, zk_M_ones_20, xo_0_1, xo_70, nI_0, if_true, if_false, eq_self, Bool.true_eq_false, Bool.false_eq_true]
        rfl
      · obtain ⟨p1, p2, p3⟩ := z_pc_step k h256 h0
        have hne : (nI k = 0) = False := eq_false (nI_ne0 (by omega) (by omega))
        have := ih (k &&& (k - 1)) (a + 1) (by omega) (by omega) v
        conv => lhs; rw [zk_M_ones_4]
        simp only [xo_5, xo_10_1i, xo_10_1r, xo_10_1n, xo_0_0, xo_10_2i, xo_10_2r, xo_10_2n, xo_55, xo_0_2, xo_48, zk_M_ones_8, xo_15_1i, xo_15_1r, xo_15_1n, xo_21, xo_23, xo_54, xo_0_1, xo_70, hne, if_true, if_false, eq_self, Bool.true_eq_false, Bool.false_eq_true, p1, nI_add, this, p3]
        rw [show a + 1 + z_pc (k &&& (k - 1)) = a + (z_pc (k &&& (k - 1)) + 1) by omega]
  have e2 : z_call 198 [.int (nI k)] G M = z_ex 198 (z_blk 198 4) [.int (nI k), .int (nI 0), .int (nI k)] [] G M := by
    simp only [ze_M_ones, zk_M_ones_0, xo_5, xo_10_1i, xo_10_1r, xo_10_1n, xo_0_0, xo_10_2i, xo_10_2r, xo_10_2n, xo_55, xo_0_2, xo_48, xo_15_1i, xo_15_1r, xo_15_1n, xo_21, xo_23, xo_54, xo_0_1, xo_70]
  rw [e2, e (k + 1) k 0 (by omega) hk, Nat.zero_add]
def f_pt (J u : Nat) : Nat → Nat → Int32 → Int32
  | 0, _, p => p
  | f + 1, k, p => if k < J then f_pt J u f (k + u) (p ||| (nI 1 <<< (nI k &&& 31))) else p
/-- the part of member i -/
def f_po (n : Nat) (s : Nat → Int32) (i : Nat) : Int32 := if s (41 + 28 * i) = 0 ∧ zf_has (s (41 + 28 * i + 4)) (nI i) = true then f_pt (z_n (s 1)) (z_pc (z_n (s (41 + 28 * i + 4)))) 7 (f_gr n s i (s (41 + 28 * i + 4))) (nI 0) else nI 0
theorem zf_has_pos : ∀ k, k < 256 → ∀ j, j < 8 → zf_has (nI k) (nI j) = true → 0 < z_pc k := by decide +kernel
theorem c_M_partOf {G : zG} (hM : z_HM G) (M : zM) {n i J u : Nat} (h0 : M 458 0 = nI n) (hn : n ≤ 8) (hi : i < 8) (hJ : M 458 1 = nI J) (hJ6 : J ≤ 6) (hu : M 458 (41 + 28 * i + 4) = nI u) (hu2 : u < 256) : z_call 197 [.ref 455, .int (nI i)] G M = some (.inl (some (.int (f_po n (M 458) i))), G, M) := by
  obtain ⟨k0, ⟨r1, r8, r9, r10, r11, r12, r13, r17⟩, ⟨q1, q2⟩, ⟨q3, q4⟩, ⟨q5, q6⟩, ⟨q7, q8⟩, ⟨q9, q10⟩, ⟨q11, q12⟩, ⟨q13, q14⟩, ⟨q15, q16⟩, hp⟩ := id hM; have kr : ∀ a, z_rc a = 7 → z_kd G 455 = (0, z_rc a) := fun a h => by rw [h]; exact k0
  have hzJ : z_n (nI J) = J := z_nN (by omega)
  have hzu : z_n (nI u) = u := z_nN (by omega)
  unfold f_po
  rw [hJ, hzJ, hu, hzu]
  by_cases hN : M 458 (41 + 28 * i) = 0
  · cases hh : zf_has (nI u) (nI i)
    · rw [if_neg (fun q => Bool.false_ne_true q.2)]
      simp (disch := first | assumption | exact kr _ rfl | omega | exact Nat.le_of_ble_eq_true rfl) only [ze_M_partOf, zk_M_partOf_0, xo_2_0, xo_17, xo_0_1, xo_5, xo_63_2, xk_v, xk_n, xo_32, xo_10_2i, xo_10_2r, xo_10_2n, xo_10_3i, xo_10_3r, xo_10_3n, xo_64_2, xo_48, zk_M_partOf_21, xo_0_2, xo_49, zk_M_partOf_29, xo_70, xo_64_3, xo_11_4i, xo_11_4r, xo_11_4n, xo_55, xo_1_4, xo_45, xo_0_3, xo_26, xo_24, xo_63_1, xo_20, xo_54, nI_add, pk_mul, Nat.add_zero, z_sA_s, z_sA_sA, z_u_s, r9, c_M_m, zr_M_isNormal, c_M_isNormal hM, hu, hN, decide_true, z_b0, if_true, if_false, eq_self, Bool.true_eq_false, Bool.false_eq_true, c_M_has, hh]
    · rw [if_pos ⟨hN, rfl⟩]
      have hp : 0 < z_pc u := zf_has_pos u hu2 i hi hh
      have hg : f_gr n (M 458) i (nI u) ≤ 8 := Nat.le_trans (z_ct_le _ _) hn
      have e : ∀ f k p, J < k + f → k ≤ 100 → z_ex 197 (z_blk 197 39) [.ref 455, .int (nI i), .int (nI u), .int p, .int (nI k)] [] G M = some (.inl (some (.int (f_pt J (z_pc u) f k p))), G, M) := by
        intro f
        induction f with
        | zero =>
          intro k p hk hk2
          have hlt : ¬ nI k < nI J := nI_nlt (by omega) (by omega)
          conv => lhs; rw [zk_M_partOf_39]
          simp (disch := first | assumption | exact kr _ rfl | omega | exact Nat.le_of_ble_eq_true rfl) only [xo_2_0, xo_17, xo_0_1, xo_5, xo_63_2, xk_v, xk_n, xo_32, xo_10_2i, xo_10_2r, xo_10_2n, xo_10_3i, xo_10_3r, xo_10_3n, xo_64_2, xo_48, xo_0_2, xo_49, xo_70, xo_64_3, xo_11_4i, xo_11_4r, xo_11_4n, xo_55, xo_1_4, xo_45, xo_0_3, xo_26, xo_24, xo_63_1, xo_20, xo_54, zk_M_partOf_69, nI_add, pk_mul, Nat.add_zero, z_sA_s, z_sA_sA, z_u_s, r9, hJ, hlt, if_true, if_false, eq_self, Bool.true_eq_false, Bool.false_eq_true, f_pt]
        | succ f ih =>
          intro k p hk hk2
          by_cases hkJ : k < J
          · have hlt : nI k < nI J := nI_lt hkJ (by omega)
            have hpc : z_pc u ≤ 8 := by unfold z_pc; omega
            have := ih (k + z_pc u) (p ||| (nI 1 <<< (nI k &&& 31))) (by omega) (by omega)
            conv => lhs; rw [zk_M_partOf_39]
            simp (disch := first | assumption | exact kr _ rfl | omega | exact Nat.le_of_ble_eq_true rfl) only [xo_2_0, xo_17, xo_0_1, xo_5, xo_63_2, xk_v, xk_n, xo_32, xo_10_2i, xo_10_2r, xo_10_2n, xo_10_3i, xo_10_3r, xo_10_3n, xo_64_2, xo_48, xo_0_2, xo_49, xo_70, xo_64_3, xo_11_4i, xo_11_4r, xo_11_4n, xo_55, xo_1_4, xo_45, zk_M_partOf_50, xo_0_3, xo_26, xo_24, xo_63_1, xo_20, xo_54, nI_add, pk_mul, Nat.add_zero, z_sA_s, z_sA_sA, z_u_s, r9, hJ, hlt, if_true, if_false, eq_self, Bool.true_eq_false, Bool.false_eq_true, c_M_ones, this, f_pt, hkJ]
          · have hlt : ¬ nI k < nI J := nI_nlt (by omega) (by omega)
            conv => lhs; rw [zk_M_partOf_39]
            simp (disch := first | assumption | exact kr _ rfl | omega | exact Nat.le_of_ble_eq_true rfl) only [xo_2_0, xo_17, xo_0_1, xo_5, xo_63_2, xk_v, xk_n, xo_32, xo_10_2i, xo_10_2r, xo_10_2n, xo_10_3i, xo_10_3r, xo_10_3n, xo_64_2, xo_48, xo_0_2, xo_49, xo_70, xo_64_3, xo_11_4i, xo_11_4r, xo_11_4n, xo_55, xo_1_4, xo_45, xo_0_3, xo_26, xo_24, xo_63_1, xo_20, xo_54, zk_M_partOf_69, nI_add, pk_mul, Nat.add_zero, z_sA_s, z_sA_sA, z_u_s, r9, hJ, hlt, if_true, if_false, eq_self, Bool.true_eq_false, Bool.false_eq_true, f_pt, hkJ]
      have e7 := e 7 (f_gr n (M 458) i (nI u)) (nI 0) (by omega) (by omega)
      have hG := c_M_greaterOf hM M h0 hn hi (nI u)
      simp (disch := first | assumption | exact kr _ rfl | omega | exact Nat.le_of_ble_eq_true rfl) only [ze_M_partOf, zk_M_partOf_0, xo_2_0, xo_17, xo_0_1, xo_5, xo_63_2, xk_v, xk_n, xo_32, xo_10_2i, xo_10_2r, xo_10_2n, xo_10_3i, xo_10_3r, xo_10_3n, xo_64_2, xo_48, zk_M_partOf_21, xo_0_2, xo_49, xo_70, zk_M_partOf_31, xo_64_3, xo_11_4i, xo_11_4r, xo_11_4n, xo_55, xo_1_4, xo_45, xo_0_3, xo_26, xo_24, xo_63_1, xo_20, xo_54, nI_add, pk_mul, Nat.add_zero, z_sA_s, z_sA_sA, z_u_s, r9, c_M_m, zr_M_isNormal, zr_M_greaterOf, c_M_isNormal hM, hu, hN, decide_true, z_b0, if_true, if_false, eq_self, Bool.true_eq_false, Bool.false_eq_true, c_M_has, hh, hG, e7]
  · rw [if_neg (fun q => hN q.1)]
    simp (disch := first | assumption | exact kr _ rfl | omega | exact Nat.le_of_ble_eq_true rfl) only [ze_M_partOf, zk_M_partOf_0, xo_2_0, xo_17, xo_0_1, xo_5, xo_63_2, xk_v, xk_n, xo_32, xo_10_2i, xo_10_2r, xo_10_2n, xo_10_3i, xo_10_3r, xo_10_3n, xo_64_2, xo_48, xo_0_2, xo_49, zk_M_partOf_29, xo_70, xo_64_3, xo_11_4i, xo_11_4r, xo_11_4n, xo_55, xo_1_4, xo_45, xo_0_3, xo_26, xo_24, xo_63_1, xo_20, xo_54, nI_add, pk_mul, Nat.add_zero, z_sA_s, z_sA_sA, z_u_s, r9, c_M_m, zr_M_isNormal, c_M_isNormal hM, hu, hN, decide_false, z_b0, if_true, if_false, eq_self, Bool.true_eq_false, Bool.false_eq_true]
/-- the job of a part that has least: a place, or none (6) -/
def f_be (s : Nat → Int32) (i : Nat) (part : Int32) (J : Nat) : Nat := z_fd (fun k b => if zf_has part (nI k) = true ∧ (b = 6 ∨ s (41 + 28 * i + (8 + k)) < s (41 + 28 * i + (8 + b))) then k else b) J 0 6
def f_wk (n : Nat) (i : Nat) (s : Nat → Int32) : Nat → Int32 := if f_be s i (f_po n s i) (z_n (s 1)) = 6 then s else z_u (z_u s (41 + 28 * i + (8 + f_be s i (f_po n s i) (z_n (s 1)))) (s (41 + 28 * i + (8 + f_be s i (f_po n s i) (z_n (s 1)))) + nI 1)) (41 + 28 * i + (14 + f_be s i (f_po n s i) (z_n (s 1)))) (s (41 + 28 * i + (14 + f_be s i (f_po n s i) (z_n (s 1)))) + nI 1)
def z_j6 (b : Nat) : Int32 := if b = 6 then nI 4294967295 else nI b
theorem c_M_works {G : zG} (hM : z_HM G) (M : zM) {n i J u : Nat} (h0 : M 458 0 = nI n) (hn : n ≤ 8) (hi : i < 8) (hJ : M 458 1 = nI J) (hJ6 : J ≤ 6) (hu : M 458 (41 + 28 * i + 4) = nI u) (hu2 : u < 256) : z_call 196 [.ref 455, .int (nI i)] G M = some (.inl none, G, z_sA M 458 (f_wk n i (M 458))) := by
  obtain ⟨k0, ⟨r1, r8, r9, r10, r11, r12, r13, r17⟩, ⟨q1, q2⟩, ⟨q3, q4⟩, ⟨q5, q6⟩, ⟨q7, q8⟩, ⟨q9, q10⟩, ⟨q11, q12⟩, ⟨q13, q14⟩, ⟨q15, q16⟩, hp⟩ := id hM; have kr : ∀ a, z_rc a = 7 → z_kd G 455 = (0, z_rc a) := fun a h => by rw [h]; exact k0
  have hzJ : z_n (nI J) = J := z_nN (by omega)
  have hpo := c_M_partOf hM M h0 hn hi hJ hJ6 hu hu2
  have hm1 : ∀ b, b < 6 → (nI b = nI 4294967295) = False := by
    intro b hb
    refine eq_false (fun q => ?_)
    have : ∀ b, b < 6 → nI b ≠ nI 4294967295 := by decide +kernel
    exact this b hb q
  have e := z_loop (fun k b => z_ex 196 (z_blk 196 11) [.ref 455, .int (nI i), .int (f_po n (M 458) i), .int (z_j6 b), .int (nI k)] [] G M) (fun k b => if zf_has (f_po n (M 458) i) (nI k) = true ∧ (b = 6 ∨ M 458 (41 + 28 * i + (8 + k)) < M 458 (41 + 28 * i + (8 + b))) then k else b) J (fun k b => k ≤ 6 ∧ b ≤ 6) (by
    intro k b hk hb
    refine ⟨?_, by omega, by split <;> omega⟩
    have hlt : nI k < nI J := nI_lt hk (by omega)
    have hk6 : z_j6 k = nI k := if_neg (by omega)
    cases hh : zf_has (f_po n (M 458) i) (nI k)
    · rw [if_neg (fun q => Bool.false_ne_true q.1)]
      conv => lhs; rw [zk_M_works_11]
      simp (disch := first | assumption | exact kr _ rfl | omega | exact Nat.le_of_ble_eq_true rfl) only [xo_2_0, xo_0_1, xo_64_2, xk_v, xk_n, xo_10_2i, xo_10_2r, xo_10_2n, xo_5, xo_10_3i, xo_10_3r, xo_10_3n, xo_11_4i, xo_11_4r, xo_11_4n, xo_55, xo_1_4, xo_17, xo_32, xo_45, zk_M_works_22, xo_0_2, xo_63_2, xo_48, xo_0_3, xo_42, xo_6, xo_20, zk_M_works_69, xo_15_4i, xo_15_4r, xo_15_4n, xo_54, xo_43, xo_69, xo_40, xo_33, nI_add, pk_mul, Nat.add_zero, z_sA_s, z_sA_sA, z_u_s, r9, hJ, hlt, if_true, if_false, eq_self, Bool.true_eq_false, Bool.false_eq_true, c_M_has, hh, z_b0]
    · by_cases hb6 : b = 6
      · rw [if_pos ⟨rfl, Or.inl hb6⟩]
        have hbj : z_j6 b = nI 4294967295 := if_pos hb6
        conv => lhs; rw [zk_M_works_11]
        simp (disch := first | assumption | exact kr _ rfl | omega | exact Nat.le_of_ble_eq_true rfl) only [xo_2_0, xo_0_1, xo_64_2, xk_v, xk_n, xo_10_2i, xo_10_2r, xo_10_2n, xo_5, xo_10_3i, xo_10_3r, xo_10_3n, xo_11_4i, xo_11_4r, xo_11_4n, xo_55, xo_1_4, xo_17, xo_32, xo_45, zk_M_works_22, xo_0_2, xo_63_2, xo_48, zk_M_works_31, xo_0_3, xo_42, xo_6, xo_20, zk_M_works_66, zk_M_works_69, xo_15_4i, xo_15_4r, xo_15_4n, xo_54, xo_43, xo_69, xo_40, xo_33, nI_add, pk_mul, Nat.add_zero, z_sA_s, z_sA_sA, z_u_s, r9, hJ, hlt, if_true, if_false, eq_self, Bool.true_eq_false, Bool.false_eq_true, c_M_has, hh, z_b0, hbj, hk6]
      · have hbj : z_j6 b = nI b := if_neg hb6
        have hne := hm1 b (by omega)
        by_cases hr : M 458 (41 + 28 * i + (8 + k)) < M 458 (41 + 28 * i + (8 + b))
        · rw [if_pos ⟨rfl, Or.inr hr⟩]
          conv => lhs; rw [zk_M_works_11]
          simp (disch := first | assumption | exact kr _ rfl | omega | exact Nat.le_of_ble_eq_true rfl) only [xo_2_0, xo_0_1, xo_64_2, xk_v, xk_n, xo_10_2i, xo_10_2r, xo_10_2n, xo_5, xo_10_3i, xo_10_3r, xo_10_3n, xo_11_4i, xo_11_4r, xo_11_4n, xo_55, xo_1_4, xo_17, xo_32, xo_45, zk_M_works_22, xo_0_2, xo_63_2, xo_48, zk_M_works_31, xo_0_3, xo_42, zk_M_works_36, xo_6, xo_20, zk_M_works_66, zk_M_works_69, xo_15_4i, xo_15_4r, xo_15_4n, xo_54, xo_43, xo_69, xo_40, xo_33, nI_add, pk_mul, Nat.add_zero, z_sA_s, z_sA_sA, z_u_s, r9, hJ, hlt, if_true, if_false, eq_self, Bool.true_eq_false, Bool.false_eq_true, c_M_has, c_M_m, hh, z_b0, hbj, hk6, hne, hr]
        · rw [if_neg (fun q => q.2.elim hb6 hr)]
          conv => lhs; rw [zk_M_works_11]
          simp (disch := first | assumption | exact kr _ rfl | omega | exact Nat.le_of_ble_eq_true rfl) only [xo_2_0, xo_0_1, xo_64_2, xk_v, xk_n, xo_10_2i, xo_10_2r, xo_10_2n, xo_5, xo_10_3i, xo_10_3r, xo_10_3n, xo_11_4i, xo_11_4r, xo_11_4n, xo_55, xo_1_4, xo_17, xo_32, xo_45, zk_M_works_22, xo_0_2, xo_63_2, xo_48, zk_M_works_31, xo_0_3, xo_42, zk_M_works_36, xo_6, xo_20, zk_M_works_69, xo_15_4i, xo_15_4r, xo_15_4n, xo_54, xo_43, xo_69, xo_40, xo_33, nI_add, pk_mul, Nat.add_zero, z_sA_s, z_sA_sA, z_u_s, r9, hJ, hlt, if_true, if_false, eq_self, Bool.true_eq_false, Bool.false_eq_true, c_M_has, c_M_m, hh, z_b0, hbj, hne, hr]) J 0 6 (by omega) (by omega)
  have hb : f_be (M 458) i (f_po n (M 458) i) J ≤ 6 := z_fd_inv (fun k b => b ≤ 6) J 0 6 (by omega) (fun k b h1 h2 h3 => by split <;> omega)
  have e2 : z_call 196 [.ref 455, .int (nI i)] G M = z_ex 196 (z_blk 196 11) [.ref 455, .int (nI i), .int (f_po n (M 458) i), .int (z_j6 6), .int (nI 0)] [] G M := by
    simp (disch := first | assumption | exact kr _ rfl | omega | exact Nat.le_of_ble_eq_true rfl) only [ze_M_works, zk_M_works_0, xo_2_0, xo_0_1, xo_64_2, xk_v, xk_n, xo_10_2i, xo_10_2r, xo_10_2n, xo_5, xo_10_3i, xo_10_3r, xo_10_3n, xo_11_4i, xo_11_4r, xo_11_4n, xo_55, xo_1_4, xo_17, xo_32, xo_45, xo_0_2, xo_63_2, xo_48, xo_0_3, xo_42, xo_6, xo_20, xo_15_4i, xo_15_4r, xo_15_4n, xo_54, xo_43, xo_69, xo_40, xo_33, zr_M_partOf, hpo, z_j6, if_true, if_false, eq_self, Bool.true_eq_false, Bool.false_eq_true]
  have hlt : ¬ nI J < nI J := nI_nlt (Nat.le_refl _) (by omega)
  rw [e2]
  refine e.trans ?_
  unfold f_wk
  rw [hJ, hzJ]
  show z_ex 196 (z_blk 196 11) [.ref 455, .int (nI i), .int (f_po n (M 458) i), .int (z_j6 (f_be (M 458) i (f_po n (M 458) i) J)), .int (nI J)] [] G M = _
  generalize f_be (M 458) i (f_po n (M 458) i) J = b at hb ⊢
  by_cases hb6 : b = 6
  · have hbj : z_j6 b = nI 4294967295 := if_pos hb6
    rw [if_pos hb6, z_sA_id]
    conv => lhs; rw [zk_M_works_11]
    simp (disch := first | assumption | exact kr _ rfl | omega | exact Nat.le_of_ble_eq_true rfl) only [xo_2_0, xo_0_1, xo_64_2, xk_v, xk_n, xo_10_2i, xo_10_2r, xo_10_2n, xo_5, xo_10_3i, xo_10_3r, xo_10_3n, xo_11_4i, xo_11_4r, xo_11_4n, xo_55, xo_1_4, xo_17, xo_32, xo_45, xo_0_2, xo_63_2, xo_48, xo_0_3, xo_42, xo_6, xo_20, xo_15_4i, xo_15_4r, xo_15_4n, xo_54, zk_M_works_75, xo_43, zk_M_works_80, xo_69, xo_40, xo_33, nI_add, pk_mul, Nat.add_zero, z_sA_s, z_sA_sA, z_u_s, r9, hJ, hlt, if_true, if_false, eq_self, Bool.true_eq_false, Bool.false_eq_true, hbj]
  · have hbj : z_j6 b = nI b := if_neg hb6
    have hne := hm1 b (by omega)
    rw [if_neg hb6]
    conv => lhs; rw [zk_M_works_11]
    simp (disch := first | assumption | exact kr _ rfl | omega | exact Nat.le_of_ble_eq_true rfl) only [xo_2_0, xo_0_1, xo_64_2, xk_v, xk_n, xo_10_2i, xo_10_2r, xo_10_2n, xo_5, xo_10_3i, xo_10_3r, xo_10_3n, xo_11_4i, xo_11_4r, xo_11_4n, xo_55, xo_1_4, xo_17, xo_32, xo_45, xo_0_2, xo_63_2, xo_48, xo_0_3, xo_42, xo_6, xo_20, xo_15_4i, xo_15_4r, xo_15_4n, xo_54, zk_M_works_75, xo_43, xo_69, zk_M_works_81, xo_40, xo_33, nI_add, pk_mul, Nat.add_zero, z_sA_s, z_sA_sA, z_u_s, r9, hJ, hlt, if_true, if_false, eq_self, Bool.true_eq_false, Bool.false_eq_true, hbj, hne, c_M_m, z_u_n]
/-- what is told of units is learned -/
def f_le (i : Nat) (u : Nat → Int32) (s : Nat → Int32) : Nat → Int32 := z_bw s (41 + 28 * i + 8) 6 (fun k => if u k < s (41 + 28 * i + 8 + k) then s (41 + 28 * i + 8 + k) else u k)
theorem c_M_learns {G : zG} (hM : z_HM G) (M : zM) {i : Nat} (hi : i < 8) : z_call 191 [.ref 455, .int (nI i)] G M = some (.inl none, G, z_sA M 458 (f_le i (fun k => M 471 (7 + k)) (M 458))) := by
  obtain ⟨k0, ⟨r1, r8, r9, r10, r11, r12, r13, r17⟩, ⟨q1, q2⟩, ⟨q3, q4⟩, ⟨q5, q6⟩, ⟨q7, q8⟩, ⟨q9, q10⟩, ⟨q11, q12⟩, ⟨q13, q14⟩, ⟨q15, q16⟩, hp⟩ := id hM; have kr : ∀ a, z_rc a = 7 → z_kd G 455 = (0, z_rc a) := fun a h => by rw [h]; exact k0
  have e := z_chain (fun k => z_ex 191 (z_blk 191 2) [.ref 455, .int (nI i), .int (nI k)] [] G (z_sA M 458 (z_bw (M 458) (41 + 28 * i + 8) k (fun k => if M 471 (7 + k) < M 458 (41 + 28 * i + 8 + k) then M 458 (41 + 28 * i + 8 + k) else M 471 (7 + k))))) 6 (by
    intro k hk
    have hlt : nI k < nI 6 := nI_lt hk (by omega)
    have hw := z_bw_u (M 458) (41 + 28 * i + 8) k (fun k => if M 471 (7 + k) < M 458 (41 + 28 * i + 8 + k) then M 458 (41 + 28 * i + 8 + k) else M 471 (7 + k))
    have hr := z_bw_out (M 458) (41 + 28 * i + 8) k (fun k => if M 471 (7 + k) < M 458 (41 + 28 * i + 8 + k) then M 458 (41 + 28 * i + 8 + k) else M 471 (7 + k)) (41 + 28 * i + 8 + k) (by omega)
    have ha : 41 + 28 * i + (8 + k) = 41 + 28 * i + 8 + k := by omega
    try dsimp only at hw
    conv => lhs; rw [zk_M_learns_2]
    simp (disch := first | assumption | exact kr _ rfl | omega | exact Nat.le_of_ble_eq_true rfl) only [xo_5, xo_10_2i, xo_10_2r, xo_10_2n, xo_55, xo_0_2, xo_6, xo_45, zk_M_learns_8, xo_2_0, xo_17, xo_0_1, xo_20, xo_63_2, xk_v, xk_n, xo_32, xo_33, xo_15_2i, xo_15_2r, xo_15_2n, xo_54, xo_69, nI_add, pk_mul, Nat.add_zero, z_sA_s, z_sA_sA, z_u_s, r9, r17, hlt, if_true, if_false, eq_self, Bool.true_eq_false, Bool.false_eq_true, c_M_m, c_M_more, ha, hr, z_sA_n, hw]) 6 0 rfl
  try dsimp only at e
  rw [z_bw_0, z_sA_id] at e
  have hlt : ¬ nI 6 < nI 6 := nI_nlt (Nat.le_refl _) (by omega)
  have e2 : z_call 191 [.ref 455, .int (nI i)] G M = z_ex 191 (z_blk 191 2) [.ref 455, .int (nI i), .int (nI 0)] [] G M := by
    simp only [ze_M_learns, zk_M_learns_0, xo_5, xo_10_2i, xo_10_2r, xo_10_2n, xo_55, xo_0_2, xo_6, xo_45, xo_2_0, xo_17, xo_0_1, xo_20, xo_63_2, xk_v, xk_n, xo_32, xo_33, xo_15_2i, xo_15_2r, xo_15_2n, xo_54, xo_69]
  rw [e2, e]
  conv => lhs; rw [zk_M_learns_2]
  simp (disch := first | assumption | exact kr _ rfl | omega | exact Nat.le_of_ble_eq_true rfl) only [xo_5, xo_10_2i, xo_10_2r, xo_10_2n, xo_55, xo_0_2, xo_6, xo_45, xo_2_0, xo_17, xo_0_1, xo_20, xo_63_2, xk_v, xk_n, xo_32, xo_33, xo_15_2i, xo_15_2r, xo_15_2n, xo_54, zk_M_learns_52, xo_69, nI_add, pk_mul, Nat.add_zero, z_sA_s, z_sA_sA, z_u_s, hlt, if_true, if_false, eq_self, Bool.true_eq_false, Bool.false_eq_true, f_le]
/-! ===== switches, case by case ===== -/
theorem zsw_0_0 : z_swt 0 (nI 0) = 104 := by decide +kernel
theorem zsw_0_1 : z_swt 0 (nI 1) = 115 := by decide +kernel
theorem zsw_0_2 : z_swt 0 (nI 2) = 138 := by decide +kernel
theorem zsw_0_3 : z_swt 0 (nI 3) = 149 := by decide +kernel
theorem zsw_0_4 : z_swt 0 (nI 4) = 160 := by decide +kernel
theorem zsw_0_5 : z_swt 0 (nI 5) = 184 := by decide +kernel
theorem zsw_0_6 : z_swt 0 (nI 6) = 203 := by decide +kernel
theorem zsw_0_7 : z_swt 0 (nI 7) = 241 := by decide +kernel
theorem zsw_0_8 : z_swt 0 (nI 8) = 241 := by decide +kernel
theorem zsw_1_0 : z_swt 1 (nI 0) = 123 := by decide +kernel
theorem zsw_1_1 : z_swt 1 (nI 1) = 36 := by decide +kernel
theorem zsw_1_2 : z_swt 1 (nI 2) = 44 := by decide +kernel
theorem zsw_1_3 : z_swt 1 (nI 3) = 76 := by decide +kernel
theorem zsw_1_4 : z_swt 1 (nI 4) = 84 := by decide +kernel
theorem zsw_1_5 : z_swt 1 (nI 5) = 123 := by decide +kernel
theorem zsw_1_6 : z_swt 1 (nI 6) = 123 := by decide +kernel
theorem zsw_2_0 : z_swt 2 (nI 0) = 112 := by decide +kernel
theorem zsw_2_1 : z_swt 2 (nI 1) = 120 := by decide +kernel
theorem zsw_2_2 : z_swt 2 (nI 2) = 253 := by decide +kernel
theorem zsw_2_3 : z_swt 2 (nI 3) = 253 := by decide +kernel
theorem zsw_2_4 : z_swt 2 (nI 4) = 253 := by decide +kernel
theorem zsw_2_5 : z_swt 2 (nI 5) = 253 := by decide +kernel
theorem zsw_2_6 : z_swt 2 (nI 6) = 128 := by decide +kernel
theorem zsw_2_7 : z_swt 2 (nI 7) = 136 := by decide +kernel
theorem zsw_2_8 : z_swt 2 (nI 8) = 147 := by decide +kernel
theorem zsw_2_9 : z_swt 2 (nI 9) = 158 := by decide +kernel
theorem zsw_2_10 : z_swt 2 (nI 10) = 166 := by decide +kernel
theorem zsw_2_11 : z_swt 2 (nI 11) = 174 := by decide +kernel
theorem zsw_2_12 : z_swt 2 (nI 12) = 190 := by decide +kernel
theorem zsw_2_13 : z_swt 2 (nI 13) = 206 := by decide +kernel
theorem zsw_2_14 : z_swt 2 (nI 14) = 214 := by decide +kernel
theorem zsw_2_15 : z_swt 2 (nI 15) = 219 := by decide +kernel
theorem zsw_2_16 : z_swt 2 (nI 16) = 224 := by decide +kernel
theorem zsw_2_17 : z_swt 2 (nI 17) = 232 := by decide +kernel
theorem zsw_2_18 : z_swt 2 (nI 18) = 243 := by decide +kernel
theorem zsw_2_19 : z_swt 2 (nI 19) = 253 := by decide +kernel
theorem zsw_2_20 : z_swt 2 (nI 20) = 253 := by decide +kernel
theorem zsw_3_0 : z_swt 3 (nI 0) = 96 := by decide +kernel
theorem zsw_3_1 : z_swt 3 (nI 1) = 101 := by decide +kernel
theorem zsw_3_2 : z_swt 3 (nI 2) = 106 := by decide +kernel
theorem zsw_3_3 : z_swt 3 (nI 3) = 111 := by decide +kernel
theorem zsw_3_4 : z_swt 3 (nI 4) = 116 := by decide +kernel
theorem zsw_3_5 : z_swt 3 (nI 5) = 121 := by decide +kernel
theorem zsw_3_6 : z_swt 3 (nI 6) = 126 := by decide +kernel
theorem zsw_3_7 : z_swt 3 (nI 7) = 131 := by decide +kernel
theorem zsw_3_8 : z_swt 3 (nI 8) = 136 := by decide +kernel
theorem zsw_3_9 : z_swt 3 (nI 9) = 160 := by decide +kernel
theorem zsw_3_10 : z_swt 3 (nI 10) = 169 := by decide +kernel
theorem zsw_3_11 : z_swt 3 (nI 11) = 178 := by decide +kernel
theorem zsw_3_12 : z_swt 3 (nI 12) = 187 := by decide +kernel
theorem zsw_3_13 : z_swt 3 (nI 13) = 187 := by decide +kernel
theorem zsw_4_0 : z_swt 4 (nI 0) = 52 := by decide +kernel
theorem zsw_4_1 : z_swt 4 (nI 1) = 61 := by decide +kernel
theorem zsw_4_2 : z_swt 4 (nI 2) = 70 := by decide +kernel
theorem zsw_4_3 : z_swt 4 (nI 3) = 79 := by decide +kernel
theorem zsw_4_4 : z_swt 4 (nI 4) = 79 := by decide +kernel
theorem zsw_5_0 : z_swt 5 (nI 0) = 100 := by decide +kernel
theorem zsw_5_1 : z_swt 5 (nI 1) = 113 := by decide +kernel
theorem zsw_5_2 : z_swt 5 (nI 2) = 126 := by decide +kernel
theorem zsw_5_3 : z_swt 5 (nI 3) = 128 := by decide +kernel
theorem zsw_5_4 : z_swt 5 (nI 4) = 149 := by decide +kernel
theorem zsw_5_5 : z_swt 5 (nI 5) = 162 := by decide +kernel
theorem zsw_5_6 : z_swt 5 (nI 6) = 184 := by decide +kernel
theorem zsw_5_7 : z_swt 5 (nI 7) = 184 := by decide +kernel
theorem zsw_6_0 : z_swt 6 (nI 0) = 80 := by decide +kernel
theorem zsw_6_1 : z_swt 6 (nI 1) = 88 := by decide +kernel
theorem zsw_6_2 : z_swt 6 (nI 2) = 96 := by decide +kernel
theorem zsw_6_3 : z_swt 6 (nI 3) = 107 := by decide +kernel
theorem zsw_6_4 : z_swt 6 (nI 4) = 109 := by decide +kernel
theorem zsw_6_5 : z_swt 6 (nI 5) = 109 := by decide +kernel
theorem zsw_7_0 : z_swt 7 (nI 0) = 104 := by decide +kernel
theorem zsw_7_1 : z_swt 7 (nI 1) = 171 := by decide +kernel
theorem zsw_7_2 : z_swt 7 (nI 2) = 194 := by decide +kernel
theorem zsw_7_3 : z_swt 7 (nI 3) = 256 := by decide +kernel
theorem zsw_7_4 : z_swt 7 (nI 4) = 322 := by decide +kernel
theorem zsw_7_5 : z_swt 7 (nI 5) = 348 := by decide +kernel
theorem zsw_7_6 : z_swt 7 (nI 6) = 361 := by decide +kernel
theorem zsw_7_7 : z_swt 7 (nI 7) = 395 := by decide +kernel
theorem zsw_7_8 : z_swt 7 (nI 8) = 395 := by decide +kernel
theorem zsw_8_0 : z_swt 8 (nI 0) = 307 := by decide +kernel
theorem zsw_8_1 : z_swt 8 (nI 1) = 40 := by decide +kernel
theorem zsw_8_2 : z_swt 8 (nI 2) = 137 := by decide +kernel
theorem zsw_8_3 : z_swt 8 (nI 3) = 239 := by decide +kernel
theorem zsw_8_4 : z_swt 8 (nI 4) = 245 := by decide +kernel
theorem zsw_8_5 : z_swt 8 (nI 5) = 307 := by decide +kernel
theorem zsw_8_6 : z_swt 8 (nI 6) = 307 := by decide +kernel
theorem zsw_9_0 : z_swt 9 (nI 0) = 188 := by decide +kernel
theorem zsw_9_1 : z_swt 9 (nI 1) = 188 := by decide +kernel
theorem zsw_9_2 : z_swt 9 (nI 2) = 188 := by decide +kernel
theorem zsw_9_3 : z_swt 9 (nI 3) = 188 := by decide +kernel
theorem zsw_9_4 : z_swt 9 (nI 4) = 188 := by decide +kernel
theorem zsw_9_5 : z_swt 9 (nI 5) = 188 := by decide +kernel
theorem zsw_9_6 : z_swt 9 (nI 6) = 188 := by decide +kernel
theorem zsw_9_7 : z_swt 9 (nI 7) = 96 := by decide +kernel
theorem zsw_9_8 : z_swt 9 (nI 8) = 104 := by decide +kernel
theorem zsw_9_9 : z_swt 9 (nI 9) = 112 := by decide +kernel
theorem zsw_9_10 : z_swt 9 (nI 10) = 117 := by decide +kernel
theorem zsw_9_11 : z_swt 9 (nI 11) = 122 := by decide +kernel
theorem zsw_9_12 : z_swt 9 (nI 12) = 135 := by decide +kernel
theorem zsw_9_13 : z_swt 9 (nI 13) = 148 := by decide +kernel
theorem zsw_9_14 : z_swt 9 (nI 14) = 153 := by decide +kernel
theorem zsw_9_15 : z_swt 9 (nI 15) = 158 := by decide +kernel
theorem zsw_9_16 : z_swt 9 (nI 16) = 163 := by decide +kernel
theorem zsw_9_17 : z_swt 9 (nI 17) = 172 := by decide +kernel
theorem zsw_9_18 : z_swt 9 (nI 18) = 172 := by decide +kernel
theorem zsw_9_19 : z_swt 9 (nI 19) = 188 := by decide +kernel
theorem zsw_9_20 : z_swt 9 (nI 20) = 188 := by decide +kernel
theorem zsw_10_0 : z_swt 10 (nI 0) = 120 := by decide +kernel
theorem zsw_10_1 : z_swt 10 (nI 1) = 198 := by decide +kernel
theorem zsw_10_2 : z_swt 10 (nI 2) = 198 := by decide +kernel
theorem zsw_10_3 : z_swt 10 (nI 3) = 198 := by decide +kernel
theorem zsw_10_4 : z_swt 10 (nI 4) = 198 := by decide +kernel
theorem zsw_10_5 : z_swt 10 (nI 5) = 198 := by decide +kernel
theorem zsw_10_6 : z_swt 10 (nI 6) = 198 := by decide +kernel
theorem zsw_10_7 : z_swt 10 (nI 7) = 198 := by decide +kernel
theorem zsw_10_8 : z_swt 10 (nI 8) = 130 := by decide +kernel
theorem zsw_10_9 : z_swt 10 (nI 9) = 168 := by decide +kernel
theorem zsw_10_10 : z_swt 10 (nI 10) = 174 := by decide +kernel
theorem zsw_10_11 : z_swt 10 (nI 11) = 180 := by decide +kernel
theorem zsw_10_12 : z_swt 10 (nI 12) = 186 := by decide +kernel
theorem zsw_10_13 : z_swt 10 (nI 13) = 198 := by decide +kernel
theorem zsw_10_14 : z_swt 10 (nI 14) = 198 := by decide +kernel
theorem zsw_11_0 : z_swt 11 (nI 0) = 176 := by decide +kernel
theorem zsw_11_1 : z_swt 11 (nI 1) = 249 := by decide +kernel
theorem zsw_11_2 : z_swt 11 (nI 2) = 305 := by decide +kernel
theorem zsw_11_3 : z_swt 11 (nI 3) = 318 := by decide +kernel
theorem zsw_11_4 : z_swt 11 (nI 4) = 374 := by decide +kernel
theorem zsw_11_5 : z_swt 11 (nI 5) = 430 := by decide +kernel
theorem zsw_11_6 : z_swt 11 (nI 6) = 443 := by decide +kernel
theorem zsw_11_7 : z_swt 11 (nI 7) = 499 := by decide +kernel
theorem zsw_11_8 : z_swt 11 (nI 8) = 555 := by decide +kernel
theorem zsw_11_9 : z_swt 11 (nI 9) = 623 := by decide +kernel
theorem zsw_11_10 : z_swt 11 (nI 10) = 636 := by decide +kernel
theorem zsw_11_11 : z_swt 11 (nI 11) = 692 := by decide +kernel
theorem zsw_11_12 : z_swt 11 (nI 12) = 760 := by decide +kernel
theorem zsw_11_13 : z_swt 11 (nI 13) = 840 := by decide +kernel
theorem zsw_11_14 : z_swt 11 (nI 14) = 908 := by decide +kernel
theorem zsw_11_15 : z_swt 11 (nI 15) = 983 := by decide +kernel
theorem zsw_11_16 : z_swt 11 (nI 16) = 1051 := by decide +kernel
theorem zsw_11_17 : z_swt 11 (nI 17) = 1119 := by decide +kernel
theorem zsw_11_18 : z_swt 11 (nI 18) = 1187 := by decide +kernel
theorem zsw_11_19 : z_swt 11 (nI 19) = 1255 := by decide +kernel
theorem zsw_11_20 : z_swt 11 (nI 20) = 1268 := by decide +kernel
theorem zsw_11_21 : z_swt 11 (nI 21) = 1336 := by decide +kernel
theorem zsw_11_22 : z_swt 11 (nI 22) = 1349 := by decide +kernel
theorem zsw_11_23 : z_swt 11 (nI 23) = 1405 := by decide +kernel
theorem zsw_11_24 : z_swt 11 (nI 24) = 1461 := by decide +kernel
theorem zsw_11_25 : z_swt 11 (nI 25) = 1529 := by decide +kernel
theorem zsw_11_26 : z_swt 11 (nI 26) = 1597 := by decide +kernel
theorem zsw_11_27 : z_swt 11 (nI 27) = 1665 := by decide +kernel
theorem zsw_11_28 : z_swt 11 (nI 28) = 1745 := by decide +kernel
theorem zsw_11_29 : z_swt 11 (nI 29) = 1759 := by decide +kernel
theorem zsw_11_30 : z_swt 11 (nI 30) = 1784 := by decide +kernel
theorem zsw_11_31 : z_swt 11 (nI 31) = 1784 := by decide +kernel
