/-! ===== the reference's storm: eight blows, beside a class's world ===== -/
theorem l_M_storm7 {G : zG} (hM : z_HM G) {b d n J : Nat} (hW : z_HW G b) (hd : d < b ∨ b + 41 ≤ d) (h32 : 32 ≤ d) (hD : z_kd G d = (0, 0)) (w1 : Int32) : ∀ (r k B Bf : Nat) (M0 V : zM) (s : Nat → Int32) (M : zM) (x : Int32) (w3 w4 : Value), k + r = 8 → M0 d 0 = x → z_R false (0, 0) n B V s → z_F n J Bf s → B ≤ 80000000 + 3697 * k → Bf ≤ 50000000 + 3697 * k → ∃ M' w3' w4', z_ex 244 (z_blk 244 7) [.ref 455, .int w1, .int (nI k), w3, w4] [] G (md M x s) = z_ex 244 (z_blk 244 112) [.ref 455, .int w1, .int (nI 8), w3', w4'] [] G (md M' (z_fd (fun _ p => f_s3 n p) r k (s, x)).2 (z_fd (fun _ p => f_s3 n p) r k (s, x)).1) ∧ z_Qm M M' := by
  intro r
  induction r with
  | zero =>
    intro k B Bf M0 V s M x w3 w4 e hx h hF hB hBf
    have hk : k = 8 := by omega
    subst hk
    have hlt : ¬ nI 8 < nI 8 := nI_nlt (Nat.le_refl _) (by omega)
    refine ⟨M, w3, w4, ?_, z_Qm_refl M⟩
    rw [z_fd_0]
    conv => lhs; rw [zk_M_storm_7]
    simp only [xo_2_0, xo_0_1, xo_18, xo_5, xo_10_2i, xo_10_2r, xo_10_2n, xo_55, xo_0_2, xo_6, xo_45, xo_64_2, xk_v, xk_n, xo_10_3i, xo_10_3r, xo_10_3n, xo_0_3, xo_49, xo_17, xo_32, xo_11_4i, xo_11_4r, xo_11_4n, xo_1_4, xo_48, xo_54, xo_41, xo_43, xo_26, xo_64_1, xo_20, xo_15_2i, xo_15_2r, xo_15_2n, xo_70, hlt, if_true, if_false, eq_self, Bool.true_eq_false, Bool.false_eq_true, and_true, true_and, and_false, false_and, or_true, true_or, or_false, false_or, ne_eq, not_true_eq_false, not_false_eq_true, decide_true, decide_false, z_sA_id]
  | succ r ih =>
    intro k B Bf M0 V s M x w3 w4 e hx h hF hB hBf
    have hlt : nI k < nI 8 := nI_lt (by omega) (by omega)
    have hm : 3697 * k ≤ 29576 := Nat.mul_le_mul_left 3697 (show k ≤ 8 by omega)
    have c1 : B + 1 + 3696 ≤ 80000000 + 3697 * (k + 1) := by rw [Nat.mul_succ]; omega
    have c2 : Bf + 1 + 3696 ≤ 50000000 + 3697 * (k + 1) := by rw [Nat.mul_succ]; omega
    have c3 : B + 1 ≤ 90000000 := by omega
    have c4 : Bf + 1 ≤ 60000000 := by omega
    have c5 : Bf + 1 ≤ 70000000 := by omega
    obtain ⟨V1, M1, w, e1, m1, o1, R1, F1⟩ := l_C_storm8 hW hd h32 hD M0 V h hF (by omega) (by omega) (nI k) .null .null
    obtain ⟨V2, e2, R2, F2⟩ := l_C_storm61 (k := k) hW hd h32 hD M1 V1 R1 F1 c3 c4 w .null
    subst hx
    have hp : (f_s2 n ((f_s1 n (s, M0 d 0)).1, M1 d 0)) = f_s3 n (s, M0 d 0) := by rw [m1]; rfl
    rw [hp] at R2 F2
    have hx : z_drw M1 d d 0 = (f_s3 n (s, M0 d 0)).2 := by rw [z_drw_0, m1]; rfl
    obtain ⟨w6, a1⟩ := l_M_storm13 hM M hF (R1_c h) (M0 d 0) k (.int w1) w3 w4
    obtain ⟨M2, a2, q2⟩ := l_M_storm93 hM M F1 c5 (f_s1 n (s, M0 d 0)).2 k w1 (.int (f_dv (f_dr (M0 d 0)) (nI 4))) w6
    have hq : f_s2 n ((f_s1 n (s, M0 d 0)).1, (f_s1 n (s, M0 d 0)).2) = f_s3 n (s, M0 d 0) := rfl
    rw [hq] at a2
    obtain ⟨M3, w7, w8, a3, q3⟩ := ih (k + 1) (B + 1 + 3696) (Bf + 1 + 3696) (z_drw M1 d) V2 (f_s3 n (s, M0 d 0)).1 M2 (f_s3 n (s, M0 d 0)).2 (.int (f_dv (f_dr (M0 d 0)) (nI 4))) w6 (by omega) hx R2 F2 c1 c2
    rw [z_fd_s]
    refine ⟨M3, w7, w8, ?_, z_Qm_trans q2 q3⟩
    refine Eq.trans ?_ a3
    rw [← a2, ← a1]
    conv => lhs; rw [zk_M_storm_7]
    simp only [xo_2_0, xo_0_1, xo_18, xo_5, xo_10_2i, xo_10_2r, xo_10_2n, xo_55, xo_0_2, xo_6, xo_45, xo_64_2, xk_v, xk_n, xo_10_3i, xo_10_3r, xo_10_3n, xo_0_3, xo_49, xo_17, xo_32, xo_11_4i, xo_11_4r, xo_11_4n, xo_1_4, xo_48, xo_54, xo_41, xo_43, xo_26, xo_64_1, xo_20, xo_15_2i, xo_15_2r, xo_15_2n, xo_70, hlt, if_true, if_false, eq_self, Bool.true_eq_false, Bool.false_eq_true, and_true, true_and, and_false, false_and, or_true, true_or, or_false, false_or, ne_eq, not_true_eq_false, not_false_eq_true, decide_true, decide_false, z_sA_id]
