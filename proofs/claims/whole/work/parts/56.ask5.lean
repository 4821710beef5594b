/-! ===== questions: who stands at a place, who holds a job; in both ===== -/
def z_ff (P : Nat → Bool) : Nat → Nat → Int32
  | 0, _ => nI 4294967295
  | r + 1, k => if P k = true then nI k else z_ff P r (k + 1)
def f_rp (n : Nat) (s : Nat → Int32) (S : Nat) (p : Int32) (k : Nat) : Bool := S.testBit k && decide (nI (f_gr n s k (nI S)) = p)
def f_rk (n : Nat) (s : Nat → Int32) (S : Nat) (p : Int32) : Int32 := z_ff (f_rp n s S p) n 0
theorem l_M_ranked {G : zG} (hM : z_HM G) (M : zM) {n S : Nat} (h0 : M 458 0 = nI n) (hn : n ≤ 8) (hS : S < 256) (x p : Int32) : z_ex 233 (z_blk 233 38) [.ref 455, .int x, .int p, .int (nI S), .int (nI 0)] [] G M = some (.inl (some (.int (f_rk n (M 458) S p))), G, M) := by
  obtain ⟨k0, ⟨r1, r8, r9, r10, r11, r12, r13, r17⟩, ⟨q1, q2⟩, ⟨q3, q4⟩, ⟨q5, q6⟩, ⟨q7, q8⟩, ⟨q9, q10⟩, ⟨q11, q12⟩, ⟨q13, q14⟩, ⟨q15, q16⟩, hp⟩ := id hM; have kr : ∀ a, z_rc a = 7 → z_kd G 455 = (0, z_rc a) := fun a h => (by rw [h]; exact k0)
  have hltn : ¬ nI n < nI n := nI_nlt (Nat.le_refl _) (by omega)
  have out : ∀ (r k : Nat), k + r = n → z_ex 233 (z_blk 233 38) [.ref 455, .int x, .int p, .int (nI S), .int (nI k)] [] G M = some (.inl (some (.int (z_ff (f_rp n (M 458) S p) r k))), G, M) := by
    intro r
    induction r with
    | zero =>
      intro k e
      have hk : k = n := by omega
      subst hk
      conv => lhs; rw [zk_M_ranked_38]
      simp (disch := first | assumption | exact kr _ rfl | omega | exact Nat.le_of_ble_eq_true rfl) only [xo_2_0, xo_5, xo_18, xo_0_1, xo_64_2, xk_v, xk_n, xo_49, xo_54, xo_55, xo_64_4, xo_48, xo_70, xo_10_3i, xo_10_3r, xo_10_3n, xo_11_4i, xo_11_4r, xo_11_4n, xo_1_4, xo_17, xo_32, xo_45, xo_0_3, xo_63_2, xo_64_3, xo_0_2, xo_43, xo_15_4i, xo_15_4r, xo_15_4n, zk_M_ranked_78, nI_add, pk_mul, Nat.add_zero, z_sA_s, z_sA_sA, z_u_s, r9, h0, hltn, if_true, if_false, eq_self, Bool.true_eq_false, Bool.false_eq_true, and_true, true_and, and_false, false_and, or_true, true_or, or_false, false_or, ne_eq, not_true_eq_false, not_false_eq_true, decide_true, decide_false, z_sA_id, z_ff]
    | succ r ih =>
      intro k e
      have hlt : nI k < nI n := nI_lt (by omega) (by omega)
      have hh := z_hasN S hS k (by omega)
      have hg := c_M_greaterOf hM M (i := k) h0 hn (by omega) (nI S)
      have e1 : z_ff (f_rp n (M 458) S p) (r + 1) k = if f_rp n (M 458) S p k = true then nI k else z_ff (f_rp n (M 458) S p) r (k + 1) := rfl
      have ih := ih (k + 1) (by omega)
      rw [e1]
      cases hb : S.testBit k
      · have hp : f_rp n (M 458) S p k = false := by unfold f_rp; rw [hb, Bool.false_and]
        rw [hb] at hh
        rw [hp, if_neg (by decide), ← ih]
        conv => lhs; rw [zk_M_ranked_38]
        simp (disch := first | assumption | exact kr _ rfl | omega | exact Nat.le_of_ble_eq_true rfl) only [xo_2_0, xo_5, xo_18, xo_0_1, xo_64_2, xk_v, xk_n, xo_49, xo_54, xo_55, xo_64_4, xo_48, xo_70, xo_10_3i, xo_10_3r, xo_10_3n, xo_11_4i, xo_11_4r, xo_11_4n, xo_1_4, xo_17, xo_32, xo_45, zk_M_ranked_49, xo_0_3, xo_63_2, xo_64_3, xo_0_2, xo_43, zk_M_ranked_72, xo_15_4i, xo_15_4r, xo_15_4n, nI_add, pk_mul, Nat.add_zero, z_sA_s, z_sA_sA, z_u_s, r9, h0, hlt, c_M_has, hh, z_b0, if_true, if_false, eq_self, Bool.true_eq_false, Bool.false_eq_true, and_true, true_and, and_false, false_and, or_true, true_or, or_false, false_or, ne_eq, not_true_eq_false, not_false_eq_true, decide_true, decide_false, z_sA_id]
      · rw [hb] at hh
        by_cases hq : nI (f_gr n (M 458) k (nI S)) = p
        · have hp : f_rp n (M 458) S p k = true := by unfold f_rp; rw [hb, Bool.true_and]; exact decide_eq_true hq
          rw [hp, if_pos rfl]
          conv => lhs; rw [zk_M_ranked_38]
          simp (disch := first | assumption | exact kr _ rfl | omega | exact Nat.le_of_ble_eq_true rfl) only [xo_2_0, xo_5, xo_18, xo_0_1, xo_64_2, xk_v, xk_n, xo_49, xo_54, xo_55, xo_64_4, xo_48, xo_70, xo_10_3i, xo_10_3r, xo_10_3n, xo_11_4i, xo_11_4r, xo_11_4n, xo_1_4, xo_17, xo_32, xo_45, zk_M_ranked_49, xo_0_3, xo_63_2, zk_M_ranked_58, xo_64_3, xo_0_2, xo_43, zk_M_ranked_69, xo_15_4i, xo_15_4r, xo_15_4n, nI_add, pk_mul, Nat.add_zero, z_sA_s, z_sA_sA, z_u_s, r9, h0, hlt, c_M_has, hh, zr_M_greaterOf, hg, hq, z_b0, if_true, if_false, eq_self, Bool.true_eq_false, Bool.false_eq_true, and_true, true_and, and_false, false_and, or_true, true_or, or_false, false_or, ne_eq, not_true_eq_false, not_false_eq_true, decide_true, decide_false, z_sA_id]
        · have hp : f_rp n (M 458) S p k = false := by unfold f_rp; rw [hb, Bool.true_and]; exact decide_eq_false hq
          rw [hp, if_neg (by decide), ← ih]
          conv => lhs; rw [zk_M_ranked_38]
          simp (disch := first | assumption | exact kr _ rfl | omega | exact Nat.le_of_ble_eq_true rfl) only [xo_2_0, xo_5, xo_18, xo_0_1, xo_64_2, xk_v, xk_n, xo_49, xo_54, xo_55, xo_64_4, xo_48, xo_70, xo_10_3i, xo_10_3r, xo_10_3n, xo_11_4i, xo_11_4r, xo_11_4n, xo_1_4, xo_17, xo_32, xo_45, zk_M_ranked_49, xo_0_3, xo_63_2, zk_M_ranked_58, xo_64_3, xo_0_2, xo_43, zk_M_ranked_72, xo_15_4i, xo_15_4r, xo_15_4n, nI_add, pk_mul, Nat.add_zero, z_sA_s, z_sA_sA, z_u_s, r9, h0, hlt, c_M_has, hh, zr_M_greaterOf, hg, hq, z_b0, if_true, if_false, eq_self, Bool.true_eq_false, Bool.false_eq_true, and_true, true_and, and_false, false_and, or_true, true_or, or_false, false_or, ne_eq, not_true_eq_false, not_false_eq_true, decide_true, decide_false, z_sA_id]
  exact out n 0 (by omega)
theorem l_M_job {G : zG} (hM : z_HM G) (M : zM) {n J B k : Nat} (hF : z_F n J B (M 458)) (hk : k < 6) (x : Int32) : z_ex 225 (z_blk 225 93) [.ref 455, .int (nI k), .int x, .int (nI 0), .int (nI 0)] [] G M = some (.inl (some (.int (nI (f_ho n (M 458) k)))), G, M) := by
  obtain ⟨k0, ⟨r1, r8, r9, r10, r11, r12, r13, r17⟩, ⟨q1, q2⟩, ⟨q3, q4⟩, ⟨q5, q6⟩, ⟨q7, q8⟩, ⟨q9, q10⟩, ⟨q11, q12⟩, ⟨q13, q14⟩, ⟨q15, q16⟩, hp⟩ := id hM; have kr : ∀ a, z_rc a = 7 → z_kd G 455 = (0, z_rc a) := fun a h => (by rw [h]; exact k0)
  have hn : n ≤ 8 := hF.1.1.2
  have h0 : M 458 0 = nI n := hF.1.1.1
  obtain ⟨hJ, hJ1, hJ6⟩ := hF.2.2.1
  have hltn : ¬ nI n < nI n := nI_nlt (Nat.le_refl _) (by omega)
  have e := z_loop0 (fun i a => z_ex 225 (z_blk 225 93) [.ref 455, .int (nI k), .int x, .int (nI a), .int (nI i)] [] G M) (fun i a => if f_hp n (M 458) k i = true then a ||| 2 ^ i else a) n (by
    intro i a hi
    have hlt : nI i < nI n := nI_lt hi (by omega)
    obtain ⟨u, u1, u2, u3⟩ := F_4 hF hi
    have hpo := c_M_partOf hM M h0 hn (show i < 8 by omega) hJ hJ6 u3 u1
    have hb := z_bitN i (show i < 8 by omega)
    have hfp : f_hp n (M 458) k i = zf_has (f_po n (M 458) i) (nI k) := rfl
    rw [hfp]
    cases hh : zf_has (f_po n (M 458) i) (nI k)
    · rw [if_neg (by decide)]
      conv => lhs; rw [zk_M_job_93]
      simp (disch := first | assumption | exact kr _ rfl | omega | exact Nat.le_of_ble_eq_true rfl) only [xo_2_0, xo_5, xo_18, xo_0_1, xo_64_2, xk_v, xk_n, xo_49, xo_54, xo_55, xo_64_4, xo_0_2, xo_63_3, xo_48, xo_70, xo_45, xo_43, xo_10_3i, xo_10_3r, xo_10_3n, xo_11_4i, xo_11_4r, xo_11_4n, xo_1_4, xo_17, xo_32, zk_M_job_104, xo_0_3, xo_63_2, xo_26, zk_M_job_125, zk_M_job_126, xo_24, xo_15_4i, xo_15_4r, xo_15_4n, nI_add, pk_mul, Nat.add_zero, z_sA_s, z_sA_sA, z_u_s, r9, h0, hlt, zr_M_partOf, hpo, c_M_has, hh, z_b0, z_orNN, Nat.or_zero, if_true, if_false, eq_self, Bool.true_eq_false, Bool.false_eq_true, and_true, true_and, and_false, false_and, or_true, true_or, or_false, false_or, ne_eq, not_true_eq_false, not_false_eq_true, decide_true, decide_false, z_sA_id]
    · rw [if_pos rfl]
      conv => lhs; rw [zk_M_job_93]
      simp (disch := first | assumption | exact kr _ rfl | omega | exact Nat.le_of_ble_eq_true rfl) only [xo_2_0, xo_5, xo_18, xo_0_1, xo_64_2, xk_v, xk_n, xo_49, xo_54, xo_55, xo_64_4, xo_0_2, xo_63_3, xo_48, xo_70, xo_45, xo_43, xo_10_3i, xo_10_3r, xo_10_3n, xo_11_4i, xo_11_4r, xo_11_4n, xo_1_4, xo_17, xo_32, zk_M_job_104, xo_0_3, xo_63_2, zk_M_job_118, xo_26, zk_M_job_126, xo_24, xo_15_4i, xo_15_4r, xo_15_4n, nI_add, pk_mul, Nat.add_zero, z_sA_s, z_sA_sA, z_u_s, r9, h0, hlt, zr_M_partOf, hpo, c_M_has, hh, hb, z_b0, z_orNN, if_true, if_false, eq_self, Bool.true_eq_false, Bool.false_eq_true, and_true, true_and, and_false, false_and, or_true, true_or, or_false, false_or, ne_eq, not_true_eq_false, not_false_eq_true, decide_true, decide_false, z_sA_id]) n 0 0 (by omega)
  rw [e]
  conv => lhs; rw [zk_M_job_93]
  simp (disch := first | assumption | exact kr _ rfl | omega | exact Nat.le_of_ble_eq_true rfl) only [xo_2_0, xo_5, xo_18, xo_0_1, xo_64_2, xk_v, xk_n, xo_49, xo_54, xo_55, xo_64_4, xo_0_2, xo_63_3, xo_48, xo_70, xo_45, xo_43, xo_10_3i, xo_10_3r, xo_10_3n, xo_11_4i, xo_11_4r, xo_11_4n, xo_1_4, xo_17, xo_32, xo_0_3, xo_63_2, xo_26, xo_24, xo_15_4i, xo_15_4r, xo_15_4n, zk_M_job_134, nI_add, pk_mul, Nat.add_zero, z_sA_s, z_sA_sA, z_u_s, r9, h0, hltn, if_true, if_false, eq_self, Bool.true_eq_false, Bool.false_eq_true, and_true, true_and, and_false, false_and, or_true, true_or, or_false, false_or, ne_eq, not_true_eq_false, not_false_eq_true, decide_true, decide_false, z_sA_id, f_ho, z_bs]
section
variable {G : zG} {b : Nat} {fl : Bool} {kp : Nat × Nat} {n J B Bf : Nat} {V : zM} {s : Nat → Int32} {S : Nat}
theorem s_S_atPlace (hW : z_HW G b) (M : zM) (h : z_R fl kp n B V s) (hF : z_F n J Bf s) (hS : S < 256) (p : Int32) : z_call 129 [.ref b, .int (nI S), .int p] G (wr M b V) = some (.inl (some (.int (f_rk n s S p))), G, wr M b V) := by
  have hn : n ≤ 8 := hF.1.1.2
  have h0 : V 0 0 = nI n := h.1.1.trans hF.1.1.1
  have hltn : ¬ nI n < nI n := nI_nlt (Nat.le_refl _) (by omega)
  have e0 : z_call 129 [.ref b, .int (nI S), .int p] G (wr M b V) = z_ex 129 (z_blk 129 2) [.ref b, .int (nI S), .int p, .int (nI 0)] [] G (wr M b V) := by
    simp only [ze_S_atPlace, zk_S_atPlace_0, xo_5, xo_10_3i, xo_10_3r, xo_10_3n, xo_55, xo_0_3, xo_2_0, xo_16, xo_45, xo_0_1, xo_26, xo_23, xo_48, xo_17, xo_34, xo_63_1, xk_v, xk_n, xo_0_2, xo_43, xo_70, xo_15_3i, xo_15_3r, xo_15_3n, xo_54]
  have out : ∀ (r k : Nat), k + r = n → z_ex 129 (z_blk 129 2) [.ref b, .int (nI S), .int p, .int (nI k)] [] G (wr M b V) = some (.inl (some (.int (z_ff (f_rp n s S p) r k))), G, wr M b V) := by
    intro r
    induction r with
    | zero =>
      intro k e
      have hk : k = n := by omega
      subst hk
      conv => lhs; rw [zk_S_atPlace_2]
      simp (disch := first | assumption | omega | exact Nat.le_of_ble_eq_true rfl | decide) only [xo_5, xo_10_3i, xo_10_3r, xo_10_3n, xo_55, xo_0_3, xo_2_0, xw_16w hW, xw_16b hW, xo_45, xo_0_1, xo_26, xo_23, xo_48, xw_17w_5 hW, xw_34 hW, xo_63_1, xk_v, xk_n, xo_0_2, xo_43, xo_70, xo_15_3i, xo_15_3r, xo_15_3n, xo_54, zk_S_atPlace_44, nI_add, pk_mul, Nat.add_zero, h0, hltn, if_true, if_false, eq_self, Bool.true_eq_false, Bool.false_eq_true, z_ff]
    | succ r ih =>
      intro k e
      have hk8 : k < 8 := by omega
      have hlt : nI k < nI n := nI_lt (by omega) (by omega)
      obtain ⟨a, a1, a2, a3⟩ := z_grT h hn (i := k) (by omega) hS
      have hbc := c_J_bitCount G (wr M b V) (k := S &&& a) (z_and8 hS)
      rw [a3] at hbc
      have e1 : z_ff (f_rp n s S p) (r + 1) k = if f_rp n s S p k = true then nI k else z_ff (f_rp n s S p) r (k + 1) := rfl
      have ih := ih (k + 1) (by omega)
      rw [e1]
      cases hb : S.testBit k
      · have hp : f_rp n s S p k = false := by unfold f_rp; rw [hb, Bool.false_and]
        have e2 : nI S &&& (nI 1 <<< (nI k &&& 31)) = 0 := (z_andN S hS k hk8).mpr hb
        rw [hp, if_neg (by decide), ← ih]
        conv => lhs; rw [zk_S_atPlace_2]
        simp (disch := first | assumption | omega | exact Nat.le_of_ble_eq_true rfl | decide) only [xo_5, xo_10_3i, xo_10_3r, xo_10_3n, xo_55, xo_0_3, xo_2_0, xw_16w hW, xw_16b hW, xo_45, zk_S_atPlace_10, xo_0_1, xo_26, xo_23, xo_48, xw_17w_5 hW, xw_34 hW, xo_63_1, xk_v, xk_n, xo_0_2, xo_43, xo_70, zk_S_atPlace_38, xo_15_3i, xo_15_3r, xo_15_3n, xo_54, nI_add, pk_mul, Nat.add_zero, h0, hlt, e2, if_true, if_false, eq_self, Bool.true_eq_false, Bool.false_eq_true]
      · have e2 : ¬ nI S &&& (nI 1 <<< (nI k &&& 31)) = 0 := fun q => by
          have := (z_andN S hS k hk8).mp q
          rw [hb] at this; exact Bool.false_ne_true this.symm
        by_cases hq : nI (f_gr n s k (nI S)) = p
        · have hp : f_rp n s S p k = true := by unfold f_rp; rw [hb, Bool.true_and]; exact decide_eq_true hq
          rw [hp, if_pos rfl]
          conv => lhs; rw [zk_S_atPlace_2]
          simp (disch := first | assumption | omega | exact Nat.le_of_ble_eq_true rfl | decide) only [xo_5, xo_10_3i, xo_10_3r, xo_10_3n, xo_55, xo_0_3, xo_2_0, xw_16w hW, xw_16b hW, xo_45, zk_S_atPlace_10, xo_0_1, xo_26, xo_23, xo_48, zk_S_atPlace_18, xw_17w_5 hW, xw_34 hW, xo_63_1, xk_v, xk_n, xo_0_2, xo_43, zk_S_atPlace_36, xo_70, xo_15_3i, xo_15_3r, xo_15_3n, xo_54, nI_add, pk_mul, Nat.add_zero, h0, hlt, e2, a2, z_andNN, hbc, hq, if_true, if_false, eq_self, Bool.true_eq_false, Bool.false_eq_true]
        · have hp : f_rp n s S p k = false := by unfold f_rp; rw [hb, Bool.true_and]; exact decide_eq_false hq
          rw [hp, if_neg (by decide), ← ih]
          conv => lhs; rw [zk_S_atPlace_2]
          simp (disch := first | assumption | omega | exact Nat.le_of_ble_eq_true rfl | decide) only [xo_5, xo_10_3i, xo_10_3r, xo_10_3n, xo_55, xo_0_3, xo_2_0, xw_16w hW, xw_16b hW, xo_45, zk_S_atPlace_10, xo_0_1, xo_26, xo_23, xo_48, zk_S_atPlace_18, xw_17w_5 hW, xw_34 hW, xo_63_1, xk_v, xk_n, xo_0_2, xo_43, xo_70, zk_S_atPlace_38, xo_15_3i, xo_15_3r, xo_15_3n, xo_54, nI_add, pk_mul, Nat.add_zero, h0, hlt, e2, a2, z_andNN, hbc, hq, if_true, if_false, eq_self, Bool.true_eq_false, Bool.false_eq_true]
  rw [e0]
  exact out n 0 (by omega)
end
