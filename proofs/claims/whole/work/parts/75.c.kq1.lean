/-! ===== the class's questions (printed by wip/whole/genk.py) ===== -/
section
variable {G : zG} {nb n J B : Nat} {pb : Nat → Nat}
theorem R_00 {V : zM} {s : Nat → Int32} (h : z_R true (0, 0) n B V s) (hF : z_F n J B s) : V 0 0 = nI n := h.1.1.trans hF.1.1.1
theorem R_01 {V : zM} {s : Nat → Int32} (h : z_R true (0, 0) n B V s) (hF : z_F n J B s) : V 0 1 = nI J := h.1.2.1.trans hF.2.2.1.1
theorem k_told_f (hC : z_HC G nb pb) (M : zM) {x : Int32} (hx : x < 0 ∨ ¬ x < nI 19) : z_call 97 [.ref 32, .int x] G M = some (.inr 1, z_thr G, rfc M 1) := by
  have hW := HC_W hC
  have r := k_ref1 hC M
  by_cases c1 : x < 0
  · simp (disch := first | assumption | omega | exact Nat.le_of_ble_eq_true rfl | decide) only [ze_C_told, zk_C_told_0, xo_2_0, xo_0_1, xo_50, xo_6, xo_46, xo_5, xo_54, zk_C_told_15, xo_55, zk_C_told_16, xc_64_2 hC, xk_v, xk_n, xo_56, xc_17_5 hC, xw_17w_6 hW, xw_17w_3 hW, xw_16w hW, xw_16a hW, xc_16 hC, xo_70, xo_63_1, xo_48, xw_64w_1 hW, xo_63_3, xo_21, xw_32_1 hW, xo_32, c1, r, xk_x, if_true, if_false, eq_self, Bool.true_eq_false, Bool.false_eq_true]
  · have c2 := gt_of (by omega) c1 (hx.elim (fun q => absurd q c1) (fun q => q))
    simp (disch := first | assumption | omega | exact Nat.le_of_ble_eq_true rfl | decide) only [ze_C_told, zk_C_told_0, xo_2_0, xo_0_1, xo_50, zk_C_told_5, xo_6, xo_46, xo_5, xo_54, zk_C_told_15, xo_55, zk_C_told_16, xc_64_2 hC, xk_v, xk_n, xo_56, xc_17_5 hC, xw_17w_6 hW, xw_17w_3 hW, xw_16w hW, xw_16a hW, xc_16 hC, xo_70, xo_63_1, xo_48, xw_64w_1 hW, xo_63_3, xo_21, xw_32_1 hW, xo_32, c1, c2, r, xk_x, if_true, if_false, eq_self, Bool.true_eq_false, Bool.false_eq_true]
theorem k_told (hC : z_HC G nb pb) (M : zM) {V : zM} {s : Nat → Int32} (h : z_R true (0, 0) n B V s) (hF : z_F n J B s) (hB : B < 2 ^ 30) {k : Nat} (hk : k < 19) : z_call 97 [.ref 32, .int (nI k)] G (wr M nb V) = some (.inl (some (.int (q_told n J s (M 32 9) (M 32 1) k))), G, wr M nb V) := by
  have hW := HC_W hC
  have lo := (HC_lo hC).1
  have hn := hF.1.1.2
  have c1 : ¬ nI k < 0 := nI_pos (by omega)
  have c2 : ¬ nI 18 < nI k := nI_nlt (by omega) (by omega)
  have r := k_need1 hC (wr M nb V)
  have e32 : wr M nb V 32 = M 32 := wr_C lo M V (by omega)
  have hpre : z_call 97 [.ref 32, .int (nI k)] G (wr M nb V) = z_ex 97 (z_blk 97 (z_swt 2 (nI k))) [.ref 32, .int (nI k)] [] G (wr M nb V) := by
    simp (disch := first | assumption | omega | exact Nat.le_of_ble_eq_true rfl | decide) only [ze_C_told, zk_C_told_0, xo_2_0, xo_0_1, xo_50, zk_C_told_5, xo_6, xo_46, zk_C_told_11, xo_5, xo_54, xo_55, zk_C_told_16, xc_64_2 hC, xk_v, xk_n, xo_56, xc_17_5 hC, xw_17w_6 hW, xw_17w_3 hW, xw_16w hW, xw_16a hW, xc_16 hC, xo_70, xo_63_1, xo_48, xw_64w_1 hW, xo_63_3, xo_21, xw_32_1 hW, xo_32, c1, c2, r, if_true, if_false, eq_self, Bool.true_eq_false, Bool.false_eq_true]
  rw [hpre]
  have t9 := s_S_circles hW M h hF
  have t10 := s_S_sets hW M h hF
  have t11 := s_S_isOne hW M h hF
  have t12 := s_S_isSound hW M h hF
  have t13 := s_S_twice hW M h hF
  have t16 := s_W_changesTold hW M h (by omega)
  have t17 := s_S_jobsHeldBy hW M h hF (lo := 2) (hi := 8) (by omega) (by omega)
  have t18 := s_S_jobsHeldBy hW M h hF (lo := 0) (hi := 0) (by omega) (by omega)
  rw [f_ji_t n J hn s] at t17
  rw [f_ji_f n J s] at t18
  obtain ⟨v0, v1, v2, v3, v4, _, _⟩ := h.1
  have v7 : V 4 1 = s 8 := by
    obtain ⟨_, sz, _, g2, _, _, _, g6, _⟩ := h.2.2.2.2.1
    rw [g2, g6]
    show nI sz = nI (0 + (sz - 0))
    rw [Nat.zero_add, Nat.sub_zero]
  have v30 := v3 0 (by omega)
  have v31 := v3 1 (by omega)
  have v32 := v3 2 (by omega)
  have v33 := v3 3 (by omega)
  have m0 : nI 2 - nI 2 = nI 0 := by decide
  have m1 : nI 3 - nI 2 = nI 1 := by decide
  have m2 : nI 4 - nI 2 = nI 2 := by decide
  have m3 : nI 5 - nI 2 = nI 3 := by decide
  clear hpre
  match k, hk with
  | 0, _ => simp (disch := first | assumption | omega | exact Nat.le_of_ble_eq_true rfl | decide) only [zsw_2_0, xo_2_0, xo_0_1, xo_50, xo_6, xo_46, xo_5, xo_54, xo_55, xc_64_2 hC, xk_v, xk_n, xo_56, zk_C_told_112, xc_17_5 hC, xw_17w_6 hW, xw_17w_3 hW, xw_16w hW, xw_16a hW, xc_16 hC, xo_70, xo_63_1, xo_48, xw_64w_1 hW, xo_63_3, xo_21, xw_32_1 hW, xo_32, e32, one0, zer0, v0, if_true, if_false, eq_self, Bool.true_eq_false, Bool.false_eq_true] <;> rfl
  | 1, _ => simp (disch := first | assumption | omega | exact Nat.le_of_ble_eq_true rfl | decide) only [zsw_2_1, xo_2_0, xo_0_1, xo_50, xo_6, xo_46, xo_5, xo_54, xo_55, xc_64_2 hC, xk_v, xk_n, xo_56, xc_17_5 hC, xw_17w_6 hW, xw_17w_3 hW, xw_16w hW, xw_16a hW, xc_16 hC, xo_70, zk_C_told_120, xo_63_1, xo_48, xw_64w_1 hW, xo_63_3, xo_21, xw_32_1 hW, xo_32, e32, one0, zer0, v1, if_true, if_false, eq_self, Bool.true_eq_false, Bool.false_eq_true] <;> rfl
  | 2, _ => simp (disch := first | assumption | omega | exact Nat.le_of_ble_eq_true rfl | decide) only [zsw_2_2, xo_2_0, xo_0_1, xo_50, xo_6, xo_46, xo_5, xo_54, xo_55, xc_64_2 hC, xk_v, xk_n, xo_56, xc_17_5 hC, xw_17w_6 hW, xw_17w_3 hW, xw_16w hW, xw_16a hW, xc_16 hC, xo_70, xo_63_1, xo_48, xw_64w_1 hW, xo_63_3, zk_C_told_253, xo_21, xw_32_1 hW, xo_32, e32, one0, zer0, m0, v30, if_true, if_false, eq_self, Bool.true_eq_false, Bool.false_eq_true] <;> rfl
  | 3, _ => simp (disch := first | assumption | omega | exact Nat.le_of_ble_eq_true rfl | decide) only [zsw_2_3, xo_2_0, xo_0_1, xo_50, xo_6, xo_46, xo_5, xo_54, xo_55, xc_64_2 hC, xk_v, xk_n, xo_56, xc_17_5 hC, xw_17w_6 hW, xw_17w_3 hW, xw_16w hW, xw_16a hW, xc_16 hC, xo_70, xo_63_1, xo_48, xw_64w_1 hW, xo_63_3, zk_C_told_253, xo_21, xw_32_1 hW, xo_32, e32, one0, zer0, m1, v31, if_true, if_false, eq_self, Bool.true_eq_false, Bool.false_eq_true] <;> rfl
  | 4, _ => simp (disch := first | assumption | omega | exact Nat.le_of_ble_eq_true rfl | decide) only [zsw_2_4, xo_2_0, xo_0_1, xo_50, xo_6, xo_46, xo_5, xo_54, xo_55, xc_64_2 hC, xk_v, xk_n, xo_56, xc_17_5 hC, xw_17w_6 hW, xw_17w_3 hW, xw_16w hW, xw_16a hW, xc_16 hC, xo_70, xo_63_1, xo_48, xw_64w_1 hW, xo_63_3, zk_C_told_253, xo_21, xw_32_1 hW, xo_32, e32, one0, zer0, m2, v32, if_true, if_false, eq_self, Bool.true_eq_false, Bool.false_eq_true] <;> rfl
  | 5, _ => simp (disch := first | assumption | omega | exact Nat.le_of_ble_eq_true rfl | decide) only [zsw_2_5, xo_2_0, xo_0_1, xo_50, xo_6, xo_46, xo_5, xo_54, xo_55, xc_64_2 hC, xk_v, xk_n, xo_56, xc_17_5 hC, xw_17w_6 hW, xw_17w_3 hW, xw_16w hW, xw_16a hW, xc_16 hC, xo_70, xo_63_1, xo_48, xw_64w_1 hW, xo_63_3, zk_C_told_253, xo_21, xw_32_1 hW, xo_32, e32, one0, zer0, m3, v33, if_true, if_false, eq_self, Bool.true_eq_false, Bool.false_eq_true] <;> rfl
  | 6, _ => simp (disch := first | assumption | omega | exact Nat.le_of_ble_eq_true rfl | decide) only [zsw_2_6, xo_2_0, xo_0_1, xo_50, xo_6, xo_46, xo_5, xo_54, xo_55, xc_64_2 hC, xk_v, xk_n, xo_56, xc_17_5 hC, xw_17w_6 hW, xw_17w_3 hW, xw_16w hW, xw_16a hW, xc_16 hC, xo_70, zk_C_told_128, xo_63_1, xo_48, xw_64w_1 hW, xo_63_3, xo_21, xw_32_1 hW, xo_32, e32, one0, zer0, v2, if_true, if_false, eq_self, Bool.true_eq_false, Bool.false_eq_true] <;> rfl
  | 7, _ => simp (disch := first | assumption | omega | exact Nat.le_of_ble_eq_true rfl | decide) only [zsw_2_7, xo_2_0, xo_0_1, xo_50, xo_6, xo_46, xo_5, xo_54, xo_55, xc_64_2 hC, xk_v, xk_n, xo_56, xc_17_5 hC, xw_17w_6 hW, xw_17w_3 hW, xw_16w hW, xw_16a hW, xc_16 hC, xo_70, zk_C_told_136, xo_63_1, xo_48, xw_64w_1 hW, xo_63_3, xo_21, xw_32_1 hW, xo_32, e32, one0, zer0, v7, if_true, if_false, eq_self, Bool.true_eq_false, Bool.false_eq_true] <;> rfl
  | 8, _ => simp (disch := first | assumption | omega | exact Nat.le_of_ble_eq_true rfl | decide) only [zsw_2_8, xo_2_0, xo_0_1, xo_50, xo_6, xo_46, xo_5, xo_54, xo_55, xc_64_2 hC, xk_v, xk_n, xo_56, xc_17_5 hC, xw_17w_6 hW, xw_17w_3 hW, xw_16w hW, xw_16a hW, xc_16 hC, xo_70, zk_C_told_147, xo_63_1, xo_48, xw_64w_1 hW, xo_63_3, xo_21, xw_32_1 hW, xo_32, e32, one0, zer0, v4, if_true, if_false, eq_self, Bool.true_eq_false, Bool.false_eq_true] <;> rfl
  | 9, _ => simp (disch := first | assumption | omega | exact Nat.le_of_ble_eq_true rfl | decide) only [zsw_2_9, xo_2_0, xo_0_1, xo_50, xo_6, xo_46, xo_5, xo_54, xo_55, xc_64_2 hC, xk_v, xk_n, xo_56, xc_17_5 hC, xw_17w_6 hW, xw_17w_3 hW, xw_16w hW, xw_16a hW, xc_16 hC, xo_70, zk_C_told_158, xo_63_1, xo_48, xw_64w_1 hW, xo_63_3, xo_21, xw_32_1 hW, xo_32, e32, one0, zer0, t9, if_true, if_false, eq_self, Bool.true_eq_false, Bool.false_eq_true] <;> rfl
  | 10, _ => simp (disch := first | assumption | omega | exact Nat.le_of_ble_eq_true rfl | decide) only [zsw_2_10, xo_2_0, xo_0_1, xo_50, xo_6, xo_46, xo_5, xo_54, xo_55, xc_64_2 hC, xk_v, xk_n, xo_56, xc_17_5 hC, xw_17w_6 hW, xw_17w_3 hW, xw_16w hW, xw_16a hW, xc_16 hC, xo_70, xo_63_1, zk_C_told_166, xo_48, xw_64w_1 hW, xo_63_3, xo_21, xw_32_1 hW, xo_32, e32, one0, zer0, t10, if_true, if_false, eq_self, Bool.true_eq_false, Bool.false_eq_true] <;> rfl
  | 11, _ => cases hc : f_one n s <;> rw [hc] at t11 <;> simp (disch := first | assumption | omega | exact Nat.le_of_ble_eq_true rfl | decide) only [zsw_2_11, xo_2_0, xo_0_1, xo_50, xo_6, xo_46, xo_5, xo_54, xo_55, xc_64_2 hC, xk_v, xk_n, xo_56, xc_17_5 hC, xw_17w_6 hW, xw_17w_3 hW, xw_16w hW, xw_16a hW, xc_16 hC, xo_70, xo_63_1, zk_C_told_174, xo_48, zk_C_told_184, zk_C_told_188, zk_C_told_189, xw_64w_1 hW, xo_63_3, xo_21, xw_32_1 hW, xo_32, e32, one0, zer0, t11, if_true, if_false, eq_self, Bool.true_eq_false, Bool.false_eq_true, z_b0] <;> (unfold q_told; simp only [Nat.reduceEqDiff, if_true, if_false, hc]; rfl)
  | 12, _ => cases hc : f_sn n s <;> rw [hc] at t12 <;> simp (disch := first | assumption | omega | exact Nat.le_of_ble_eq_true rfl | decide) only [zsw_2_12, xo_2_0, xo_0_1, xo_50, xo_6, xo_46, xo_5, xo_54, xo_55, xc_64_2 hC, xk_v, xk_n, xo_56, xc_17_5 hC, xw_17w_6 hW, xw_17w_3 hW, xw_16w hW, xw_16a hW, xc_16 hC, xo_70, xo_63_1, xo_48, zk_C_told_190, zk_C_told_200, zk_C_told_204, zk_C_told_205, xw_64w_1 hW, xo_63_3, xo_21, xw_32_1 hW, xo_32, e32, one0, zer0, t12, if_true, if_false, eq_self, Bool.true_eq_false, Bool.false_eq_true, z_b0] <;> (unfold q_told; simp only [Nat.reduceEqDiff, if_true, if_false, hc]; rfl)
  | 13, _ => simp (disch := first | assumption | omega | exact Nat.le_of_ble_eq_true rfl | decide) only [zsw_2_13, xo_2_0, xo_0_1, xo_50, xo_6, xo_46, xo_5, xo_54, xo_55, xc_64_2 hC, xk_v, xk_n, xo_56, xc_17_5 hC, xw_17w_6 hW, xw_17w_3 hW, xw_16w hW, xw_16a hW, xc_16 hC, xo_70, xo_63_1, xo_48, zk_C_told_206, xw_64w_1 hW, xo_63_3, xo_21, xw_32_1 hW, xo_32, e32, one0, zer0, t13, if_true, if_false, eq_self, Bool.true_eq_false, Bool.false_eq_true] <;> rfl
  | 14, _ => simp (disch := first | assumption | omega | exact Nat.le_of_ble_eq_true rfl | decide) only [zsw_2_14, xo_2_0, xo_0_1, xo_50, xo_6, xo_46, xo_5, xo_54, xo_55, xc_64_2 hC, xk_v, xk_n, xo_56, xc_17_5 hC, xw_17w_6 hW, xw_17w_3 hW, xw_16w hW, xw_16a hW, xc_16 hC, xo_70, xo_63_1, xo_48, zk_C_told_214, xw_64w_1 hW, xo_63_3, xo_21, xw_32_1 hW, xo_32, e32, one0, zer0,  if_true, if_false, eq_self, Bool.true_eq_false, Bool.false_eq_true] <;> rfl
  | 15, _ => simp (disch := first | assumption | omega | exact Nat.le_of_ble_eq_true rfl | decide) only [zsw_2_15, xo_2_0, xo_0_1, xo_50, xo_6, xo_46, xo_5, xo_54, xo_55, xc_64_2 hC, xk_v, xk_n, xo_56, xc_17_5 hC, xw_17w_6 hW, xw_17w_3 hW, xw_16w hW, xw_16a hW, xc_16 hC, xo_70, xo_63_1, xo_48, zk_C_told_219, xw_64w_1 hW, xo_63_3, xo_21, xw_32_1 hW, xo_32, e32, one0, zer0,  if_true, if_false, eq_self, Bool.true_eq_false, Bool.false_eq_true] <;> rfl
  | 16, _ => simp (disch := first | assumption | omega | exact Nat.le_of_ble_eq_true rfl | decide) only [zsw_2_16, xo_2_0, xo_0_1, xo_50, xo_6, xo_46, xo_5, xo_54, xo_55, xc_64_2 hC, xk_v, xk_n, xo_56, xc_17_5 hC, xw_17w_6 hW, xw_17w_3 hW, xw_16w hW, xw_16a hW, xc_16 hC, xo_70, xo_63_1, xo_48, zk_C_told_224, xw_64w_1 hW, xo_63_3, xo_21, xw_32_1 hW, xo_32, e32, one0, zer0, t16, if_true, if_false, eq_self, Bool.true_eq_false, Bool.false_eq_true] <;> rfl
  | 17, _ => simp (disch := first | assumption | omega | exact Nat.le_of_ble_eq_true rfl | decide) only [zsw_2_17, xo_2_0, xo_0_1, xo_50, xo_6, xo_46, xo_5, xo_54, xo_55, xc_64_2 hC, xk_v, xk_n, xo_56, xc_17_5 hC, xw_17w_6 hW, xw_17w_3 hW, xw_16w hW, xw_16a hW, xc_16 hC, xo_70, xo_63_1, xo_48, xw_64w_1 hW, zk_C_told_232, xo_63_3, xo_21, xw_32_1 hW, xo_32, e32, one0, zer0, t17, if_true, if_false, eq_self, Bool.true_eq_false, Bool.false_eq_true] <;> rfl
  | 18, _ => simp (disch := first | assumption | omega | exact Nat.le_of_ble_eq_true rfl | decide) only [zsw_2_18, xo_2_0, xo_0_1, xo_50, xo_6, xo_46, xo_5, xo_54, xo_55, xc_64_2 hC, xk_v, xk_n, xo_56, xc_17_5 hC, xw_17w_6 hW, xw_17w_3 hW, xw_16w hW, xw_16a hW, xc_16 hC, xo_70, xo_63_1, xo_48, xw_64w_1 hW, xo_63_3, zk_C_told_243, xo_21, xw_32_1 hW, xo_32, e32, one0, zer0, t18, if_true, if_false, eq_self, Bool.true_eq_false, Bool.false_eq_true] <;> rfl
  | k + 19, h => exact absurd h (by omega)
theorem k_member_f0 (hC : z_HC G nb pb) (M : zM) {V : zM} {s : Nat → Int32} (h : z_R true (0, 0) n B V s) (hF : z_F n J B s) {x w : Int32} (hx : x < 0 ∨ ¬ x < nI n) : z_call 109 [.ref 32, .int x, .int w] G (wr M nb V) = some (.inr 0, z_thr G, rfc (wr M nb V) 0) := by
  have hW := HC_W hC
  have r := k_mem1 hC M V (x := x) (R_00 h hF) hx
  simp (disch := first | assumption | omega | exact Nat.le_of_ble_eq_true rfl | decide) only [ze_C_member, zk_C_member_0, xo_2_0, xo_0_1, xc_64_2 hC, xw_64w_2 hW, xk_v, xk_n, xo_0_2, xo_50, xo_6, xo_46, xo_5, xo_54, xo_55, xc_17_5 hC, xw_17w_5 hW, xw_34 hW, xo_12_3i, xo_12_3r, xo_12_3n, xo_56, xo_2_3, xw_16b hW, xw_16w hW, xo_70, xo_49, xo_21, xo_63_2, r, xk_x, if_true, if_false, eq_self, Bool.true_eq_false, Bool.false_eq_true]
theorem k_member_f1 (hC : z_HC G nb pb) (M : zM) {V : zM} {s : Nat → Int32} (h : z_R true (0, 0) n B V s) (hF : z_F n J B s) {i : Nat} {w : Int32} (hi : i < n) (hx : w < 0 ∨ ¬ w < nI 13) : z_call 109 [.ref 32, .int (nI i), .int w] G (wr M nb V) = some (.inr 1, z_thr G, rfc (wr M nb V) 1) := by
  have hW := HC_W hC
  have r0 := k_mem0 hC M V (R_00 h hF) hF.1.1.2 hi
  have r := k_ref1 hC (wr M nb V)
  by_cases c1 : w < 0
  · simp (disch := first | assumption | omega | exact Nat.le_of_ble_eq_true rfl | decide) only [ze_C_member, zk_C_member_0, xo_2_0, xo_0_1, xc_64_2 hC, xw_64w_2 hW, xk_v, xk_n, xo_0_2, xo_50, xo_6, xo_46, xo_5, xo_54, zk_C_member_20, xo_55, zk_C_member_21, xc_17_5 hC, xw_17w_5 hW, xw_34 hW, xo_12_3i, xo_12_3r, xo_12_3n, xo_56, xo_2_3, xw_16b hW, xw_16w hW, xo_70, xo_49, xo_21, xo_63_2, r0, c1, r, xk_x, if_true, if_false, eq_self, Bool.true_eq_false, Bool.false_eq_true]
  · have c2 := gt_of (k := 12) (by omega) c1 (hx.elim (fun q => absurd q c1) (fun q => q))
    simp (disch := first | assumption | omega | exact Nat.le_of_ble_eq_true rfl | decide) only [ze_C_member, zk_C_member_0, xo_2_0, xo_0_1, xc_64_2 hC, xw_64w_2 hW, xk_v, xk_n, xo_0_2, xo_50, zk_C_member_10, xo_6, xo_46, xo_5, xo_54, zk_C_member_20, xo_55, zk_C_member_21, xc_17_5 hC, xw_17w_5 hW, xw_34 hW, xo_12_3i, xo_12_3r, xo_12_3n, xo_56, xo_2_3, xw_16b hW, xw_16w hW, xo_70, xo_49, xo_21, xo_63_2, r0, c1, c2, r, xk_x, if_true, if_false, eq_self, Bool.true_eq_false, Bool.false_eq_true]
theorem k_member (hC : z_HC G nb pb) (M : zM) {V : zM} {s : Nat → Int32} (h : z_R true (0, 0) n B V s) (hF : z_F n J B s) {i k : Nat} (hi : i < n) (hk : k < 13) : z_call 109 [.ref 32, .int (nI i), .int (nI k)] G (wr M nb V) = some (.inl (some (.int (q_mem n s i k))), G, wr M nb V) := by
  have hW := HC_W hC
  have hn := hF.1.1.2
  have hi8 : i < 8 := by omega
  have r0 := k_mem0 hC M V (R_00 h hF) hF.1.1.2 hi
  have r := k_need1 hC (wr M nb V)
  have c1 : ¬ nI k < 0 := nI_pos (by omega)
  have c2 : ¬ nI 12 < nI k := nI_nlt (by omega) (by omega)
  have hpre : z_call 109 [.ref 32, .int (nI i), .int (nI k)] G (wr M nb V) = z_ex 109 (z_blk 109 (z_swt 3 (nI k))) [.ref 32, .int (nI i), .int (nI k), .ref (nb + (9 + 4 * i))] [] G (wr M nb V) := by
    simp (disch := first | assumption | omega | exact Nat.le_of_ble_eq_true rfl | decide) only [ze_C_member, zk_C_member_0, xo_2_0, xo_0_1, xc_64_2 hC, xw_64w_2 hW, xk_v, xk_n, xo_0_2, xo_50, zk_C_member_10, xo_6, xo_46, zk_C_member_16, xo_5, xo_54, xo_55, zk_C_member_21, xc_17_5 hC, xw_17w_5 hW, xw_34 hW, xo_12_3i, xo_12_3r, xo_12_3n, xo_56, xo_2_3, xw_16b hW, xw_16w hW, xo_70, xo_49, xo_21, xo_63_2, c1, c2, r0, r, if_true, if_false, eq_self, Bool.true_eq_false, Bool.false_eq_true]
  rw [hpre]
  clear hpre
  have t9 := s_W_partOf hW M h hF hi
  have t10 := s_S_setOf hW M h hF hi
  have t11 := s_S_circleOf hW M h hF hi
  obtain ⟨p1, p2, _, p4⟩ := h.2.2.1 i hi
  have v3 := p4 3 (by omega) (by omega)
  have v4 := p4 4 (by omega) (by omega)
  have v5 := p4 5 (by omega) (by omega)
  have v6 := p4 6 (by omega) (by omega)
  have v7 := p4 7 (by omega) (by omega)
  have v8 := p4 8 (by omega) (by omega)
  have v9 := p4 9 (by omega) (by omega)
  have v10 := p4 10 (by omega) (by omega)
  have v11 := p4 11 (by omega) (by omega)
  have v02 := h.1.2.2.1
  match k, hk with
  | 0, _ => simp (disch := first | assumption | omega | exact Nat.le_of_ble_eq_true rfl | decide) only [zsw_3_0, xo_2_0, xo_0_1, xc_64_2 hC, xw_64w_2 hW, xk_v, xk_n, xo_0_2, xo_50, xo_6, xo_46, xo_5, xo_54, xo_55, xc_17_5 hC, xw_17w_5 hW, xw_34 hW, xo_12_3i, xo_12_3r, xo_12_3n, xo_56, zk_C_member_96, xo_2_3, xw_16b hW, xw_16w hW, xo_70, xo_49, xo_21, xo_63_2, p2, if_true, if_false, eq_self, Bool.true_eq_false, Bool.false_eq_true] <;> rfl
  | 1, _ => simp (disch := first | assumption | omega | exact Nat.le_of_ble_eq_true rfl | decide) only [zsw_3_1, xo_2_0, xo_0_1, xc_64_2 hC, xw_64w_2 hW, xk_v, xk_n, xo_0_2, xo_50, xo_6, xo_46, xo_5, xo_54, xo_55, xc_17_5 hC, xw_17w_5 hW, xw_34 hW, xo_12_3i, xo_12_3r, xo_12_3n, xo_56, xo_2_3, xw_16b hW, xw_16w hW, xo_70, zk_C_member_101, xo_49, xo_21, xo_63_2, v3, if_true, if_false, eq_self, Bool.true_eq_false, Bool.false_eq_true] <;> rfl
  | 2, _ => simp (disch := first | assumption | omega | exact Nat.le_of_ble_eq_true rfl | decide) only [zsw_3_2, xo_2_0, xo_0_1, xc_64_2 hC, xw_64w_2 hW, xk_v, xk_n, xo_0_2, xo_50, xo_6, xo_46, xo_5, xo_54, xo_55, xc_17_5 hC, xw_17w_5 hW, xw_34 hW, xo_12_3i, xo_12_3r, xo_12_3n, xo_56, xo_2_3, xw_16b hW, xw_16w hW, xo_70, zk_C_member_106, xo_49, xo_21, xo_63_2, v4, if_true, if_false, eq_self, Bool.true_eq_false, Bool.false_eq_true] <;> rfl
  | 3, _ => simp (disch := first | assumption | omega | exact Nat.le_of_ble_eq_true rfl | decide) only [zsw_3_3, xo_2_0, xo_0_1, xc_64_2 hC, xw_64w_2 hW, xk_v, xk_n, xo_0_2, xo_50, xo_6, xo_46, xo_5, xo_54, xo_55, xc_17_5 hC, xw_17w_5 hW, xw_34 hW, xo_12_3i, xo_12_3r, xo_12_3n, xo_56, xo_2_3, xw_16b hW, xw_16w hW, xo_70, zk_C_member_111, xo_49, xo_21, xo_63_2, v5, if_true, if_false, eq_self, Bool.true_eq_false, Bool.false_eq_true] <;> rfl
  | 4, _ => simp (disch := first | assumption | omega | exact Nat.le_of_ble_eq_true rfl | decide) only [zsw_3_4, xo_2_0, xo_0_1, xc_64_2 hC, xw_64w_2 hW, xk_v, xk_n, xo_0_2, xo_50, xo_6, xo_46, xo_5, xo_54, xo_55, xc_17_5 hC, xw_17w_5 hW, xw_34 hW, xo_12_3i, xo_12_3r, xo_12_3n, xo_56, xo_2_3, xw_16b hW, xw_16w hW, xo_70, zk_C_member_116, xo_49, xo_21, xo_63_2, v6, if_true, if_false, eq_self, Bool.true_eq_false, Bool.false_eq_true] <;> rfl
  | 5, _ => simp (disch := first | assumption | omega | exact Nat.le_of_ble_eq_true rfl | decide) only [zsw_3_5, xo_2_0, xo_0_1, xc_64_2 hC, xw_64w_2 hW, xk_v, xk_n, xo_0_2, xo_50, xo_6, xo_46, xo_5, xo_54, xo_55, xc_17_5 hC, xw_17w_5 hW, xw_34 hW, xo_12_3i, xo_12_3r, xo_12_3n, xo_56, xo_2_3, xw_16b hW, xw_16w hW, xo_70, zk_C_member_121, xo_49, xo_21, xo_63_2, v7, if_true, if_false, eq_self, Bool.true_eq_false, Bool.false_eq_true] <;> rfl
  | 6, _ => simp (disch := first | assumption | omega | exact Nat.le_of_ble_eq_true rfl | decide) only [zsw_3_6, xo_2_0, xo_0_1, xc_64_2 hC, xw_64w_2 hW, xk_v, xk_n, xo_0_2, xo_50, xo_6, xo_46, xo_5, xo_54, xo_55, xc_17_5 hC, xw_17w_5 hW, xw_34 hW, xo_12_3i, xo_12_3r, xo_12_3n, xo_56, xo_2_3, xw_16b hW, xw_16w hW, xo_70, zk_C_member_126, xo_49, xo_21, xo_63_2, v8, if_true, if_false, eq_self, Bool.true_eq_false, Bool.false_eq_true] <;> rfl
  | 7, _ => simp (disch := first | assumption | omega | exact Nat.le_of_ble_eq_true rfl | decide) only [zsw_3_7, xo_2_0, xo_0_1, xc_64_2 hC, xw_64w_2 hW, xk_v, xk_n, xo_0_2, xo_50, xo_6, xo_46, xo_5, xo_54, xo_55, xc_17_5 hC, xw_17w_5 hW, xw_34 hW, xo_12_3i, xo_12_3r, xo_12_3n, xo_56, xo_2_3, xw_16b hW, xw_16w hW, xo_70, zk_C_member_131, xo_49, xo_21, xo_63_2, v10, if_true, if_false, eq_self, Bool.true_eq_false, Bool.false_eq_true] <;> rfl
  | 8, _ =>
    by_cases hc : s (41 + 28 * i + 6) = 0
    · have hc' : V (9 + 4 * i) 10 = 0 := v10.trans hc
      simp (disch := first | assumption | omega | exact Nat.le_of_ble_eq_true rfl | decide) only [zsw_3_8, xo_2_0, xo_0_1, xc_64_2 hC, xw_64w_2 hW, xk_v, xk_n, xo_0_2, xo_50, xo_6, xo_46, xo_5, xo_54, xo_55, xc_17_5 hC, xw_17w_5 hW, xw_34 hW, xo_12_3i, xo_12_3r, xo_12_3n, xo_56, xo_2_3, xw_16b hW, xw_16w hW, xo_70, zk_C_member_136, xo_49, zk_C_member_143, xo_21, zk_C_member_159, xo_63_2, hc', if_true, if_false, eq_self, Bool.true_eq_false, Bool.false_eq_true]
      unfold q_mem
      simp only [Nat.reduceEqDiff, if_true, if_false, hc]
    · have hc' : ¬ V (9 + 4 * i) 10 = 0 := by rw [v10]; exact hc
      simp (disch := first | assumption | omega | exact Nat.le_of_ble_eq_true rfl | decide) only [zsw_3_8, xo_2_0, xo_0_1, xc_64_2 hC, xw_64w_2 hW, xk_v, xk_n, xo_0_2, xo_50, xo_6, xo_46, xo_5, xo_54, xo_55, xc_17_5 hC, xw_17w_5 hW, xw_34 hW, xo_12_3i, xo_12_3r, xo_12_3n, xo_56, xo_2_3, xw_16b hW, xw_16w hW, xo_70, zk_C_member_136, xo_49, zk_C_member_147, xo_21, zk_C_member_159, xo_63_2, hc', v11, v02, if_true, if_false, eq_self, Bool.true_eq_false, Bool.false_eq_true]
      unfold q_mem
      simp only [Nat.reduceEqDiff, if_true, if_false, hc]
      rfl
  | 9, _ => simp (disch := first | assumption | omega | exact Nat.le_of_ble_eq_true rfl | decide) only [zsw_3_9, xo_2_0, xo_0_1, xc_64_2 hC, xw_64w_2 hW, xk_v, xk_n, xo_0_2, xo_50, xo_6, xo_46, xo_5, xo_54, xo_55, xc_17_5 hC, xw_17w_5 hW, xw_34 hW, xo_12_3i, xo_12_3r, xo_12_3n, xo_56, xo_2_3, xw_16b hW, xw_16w hW, xo_70, xo_49, xo_21, zk_C_member_160, xo_63_2, t9, if_true, if_false, eq_self, Bool.true_eq_false, Bool.false_eq_true] <;> rfl
  | 10, _ => simp (disch := first | assumption | omega | exact Nat.le_of_ble_eq_true rfl | decide) only [zsw_3_10, xo_2_0, xo_0_1, xc_64_2 hC, xw_64w_2 hW, xk_v, xk_n, xo_0_2, xo_50, xo_6, xo_46, xo_5, xo_54, xo_55, xc_17_5 hC, xw_17w_5 hW, xw_34 hW, xo_12_3i, xo_12_3r, xo_12_3n, xo_56, xo_2_3, xw_16b hW, xw_16w hW, xo_70, xo_49, xo_21, zk_C_member_169, xo_63_2, t10, if_true, if_false, eq_self, Bool.true_eq_false, Bool.false_eq_true] <;> rfl
  | 11, _ => simp (disch := first | assumption | omega | exact Nat.le_of_ble_eq_true rfl | decide) only [zsw_3_11, xo_2_0, xo_0_1, xc_64_2 hC, xw_64w_2 hW, xk_v, xk_n, xo_0_2, xo_50, xo_6, xo_46, xo_5, xo_54, xo_55, xc_17_5 hC, xw_17w_5 hW, xw_34 hW, xo_12_3i, xo_12_3r, xo_12_3n, xo_56, xo_2_3, xw_16b hW, xw_16w hW, xo_70, xo_49, xo_21, xo_63_2, zk_C_member_178, t11, if_true, if_false, eq_self, Bool.true_eq_false, Bool.false_eq_true] <;> rfl
  | 12, _ => simp (disch := first | assumption | omega | exact Nat.le_of_ble_eq_true rfl | decide) only [zsw_3_12, xo_2_0, xo_0_1, xc_64_2 hC, xw_64w_2 hW, xk_v, xk_n, xo_0_2, xo_50, xo_6, xo_46, xo_5, xo_54, xo_55, xc_17_5 hC, xw_17w_5 hW, xw_34 hW, xo_12_3i, xo_12_3r, xo_12_3n, xo_56, xo_2_3, xw_16b hW, xw_16w hW, xo_70, xo_49, xo_21, xo_63_2, zk_C_member_187, v9, if_true, if_false, eq_self, Bool.true_eq_false, Bool.false_eq_true] <;> rfl
  | k + 13, h => exact absurd h (by omega)
theorem k_units_f0 (hC : z_HC G nb pb) (M : zM) {V : zM} {s : Nat → Int32} (h : z_R true (0, 0) n B V s) (hF : z_F n J B s) {x y w : Int32} (hx : x < 0 ∨ ¬ x < nI n) : z_call 111 [.ref 32, .int x, .int y, .int w] G (wr M nb V) = some (.inr 0, z_thr G, rfc (wr M nb V) 0) := by
  have hW := HC_W hC
  have r := k_mem1 hC M V (x := x) (R_00 h hF) hx
  simp (disch := first | assumption | omega | exact Nat.le_of_ble_eq_true rfl | decide) only [ze_C_units, zk_C_units_0, xo_2_0, xo_0_1, xc_64_2 hC, xk_v, xk_n, xo_0_2, xo_0_3, xo_48, xo_5, xo_43, xo_54, xo_55, xc_17_5 hC, xw_17w_5 hW, xw_17b_12 hW, xw_17b_13 hW, xw_34 hW, xo_13_4i, xo_13_4r, xo_13_4n, xo_49, xo_3_4, xw_32_l hW, xw_32_k hW, xo_32, xo_70, r, xk_x, if_true, if_false, eq_self, Bool.true_eq_false, Bool.false_eq_true]
theorem k_units_f1 (hC : z_HC G nb pb) (M : zM) {V : zM} {s : Nat → Int32} (h : z_R true (0, 0) n B V s) (hF : z_F n J B s) {i : Nat} {y w : Int32} (hi : i < n) (hx : y < 0 ∨ ¬ y < nI J) : z_call 111 [.ref 32, .int (nI i), .int y, .int w] G (wr M nb V) = some (.inr 0, z_thr G, rfc (wr M nb V) 0) := by
  have hW := HC_W hC
  have r0 := k_mem0 hC M V (R_00 h hF) hF.1.1.2 hi
  have r := k_job1 hC M V (x := y) (R_01 h hF) hx
  simp (disch := first | assumption | omega | exact Nat.le_of_ble_eq_true rfl | decide) only [ze_C_units, zk_C_units_0, xo_2_0, xo_0_1, xc_64_2 hC, xk_v, xk_n, xo_0_2, xo_0_3, xo_48, xo_5, xo_43, xo_54, xo_55, xc_17_5 hC, xw_17w_5 hW, xw_17b_12 hW, xw_17b_13 hW, xw_34 hW, xo_13_4i, xo_13_4r, xo_13_4n, xo_49, xo_3_4, xw_32_l hW, xw_32_k hW, xo_32, xo_70, r0, r, xk_x, if_true, if_false, eq_self, Bool.true_eq_false, Bool.false_eq_true]
theorem k_units_f2 (hC : z_HC G nb pb) (M : zM) {V : zM} {s : Nat → Int32} (h : z_R true (0, 0) n B V s) (hF : z_F n J B s) {i j : Nat} {w : Int32} (hi : i < n) (hj : j < J) (hx : w < 0 ∨ ¬ w < nI 2) : z_call 111 [.ref 32, .int (nI i), .int (nI j), .int w] G (wr M nb V) = some (.inr 1, z_thr G, rfc (wr M nb V) 1) := by
  have hW := HC_W hC
  have hJ := hF.2.2.1.2.2
  have r0 := k_mem0 hC M V (R_00 h hF) hF.1.1.2 hi
  have r1 := k_job0 hC M V (R_01 h hF) (by omega) hj
  have r := k_ref1 hC (wr M nb V)
  have c1 : ¬ w = 0 := fun q => by subst q; rcases hx with q | q; (· exact absurd q (by decide)); (· exact q (by decide))
  have c2 : ¬ w = nI 1 := fun q => by subst q; rcases hx with q | q; (· exact absurd q (by decide)); (· exact q (by decide))
  simp (disch := first | assumption | omega | exact Nat.le_of_ble_eq_true rfl | decide) only [ze_C_units, zk_C_units_0, xo_2_0, xo_0_1, xc_64_2 hC, xk_v, xk_n, xo_0_2, xo_0_3, xo_48, zk_C_units_15, xo_5, xo_43, xo_54, zk_C_units_24, xo_55, zk_C_units_25, xc_17_5 hC, xw_17w_5 hW, xw_17b_12 hW, xw_17b_13 hW, xw_34 hW, xo_13_4i, xo_13_4r, xo_13_4n, xo_49, xo_3_4, xw_32_l hW, xw_32_k hW, xo_32, xo_70, r0, r1, c1, c2, r, xk_x, if_true, if_false, eq_self, Bool.true_eq_false, Bool.false_eq_true]
theorem k_units (hC : z_HC G nb pb) (M : zM) {V : zM} {s : Nat → Int32} (h : z_R true (0, 0) n B V s) (hF : z_F n J B s) {i j k : Nat} (hi : i < n) (hj : j < J) (hk : k < 2) : z_call 111 [.ref 32, .int (nI i), .int (nI j), .int (nI k)] G (wr M nb V) = some (.inl (some (.int (s (41 + 28 * i + ((if k = 0 then 8 else 14) + j))))), G, wr M nb V) := by
  have hW := HC_W hC
  have hn := hF.1.1.2
  have hJ := hF.2.2.1.2.2
  have hi8 : i < 8 := by omega
  have hj6 : j < 6 := by omega
  have r0 := k_mem0 hC M V (R_00 h hF) hF.1.1.2 hi
  have r1 := k_job0 hC M V (R_01 h hF) (by omega) hj
  have r := k_need1 hC (wr M nb V)
  obtain ⟨p1, p2, p3⟩ := h.2.2.2.1 rfl i hi
  have v1 := p1 j hj6
  have v2 := p2 j hj6
  match k, hk with
  | 0, _ => simp (disch := first | assumption | omega | exact Nat.le_of_ble_eq_true rfl | decide) only [ze_C_units, zk_C_units_0, xo_2_0, xo_0_1, xc_64_2 hC, xk_v, xk_n, xo_0_2, xo_0_3, xo_48, xo_5, xo_43, zk_C_units_20, xo_54, xo_55, zk_C_units_25, xc_17_5 hC, xw_17w_5 hW, xw_17b_12 hW, xw_17b_13 hW, xw_34 hW, xo_13_4i, xo_13_4r, xo_13_4n, xo_49, zk_C_units_43, xo_3_4, xw_32_l hW, xw_32_k hW, xo_32, zk_C_units_60, xo_70, r0, r1, r, v1, one0, zer0, if_true, if_false, eq_self, Bool.true_eq_false, Bool.false_eq_true]
  | 1, _ => simp (disch := first | assumption | omega | exact Nat.le_of_ble_eq_true rfl | decide) only [ze_C_units, zk_C_units_0, xo_2_0, xo_0_1, xc_64_2 hC, xk_v, xk_n, xo_0_2, xo_0_3, xo_48, zk_C_units_15, xo_5, xo_43, zk_C_units_20, xo_54, xo_55, zk_C_units_25, xc_17_5 hC, xw_17w_5 hW, xw_17b_12 hW, xw_17b_13 hW, xw_34 hW, xo_13_4i, xo_13_4r, xo_13_4n, xo_49, xo_3_4, xw_32_l hW, xw_32_k hW, xo_32, zk_C_units_53, zk_C_units_60, xo_70, r0, r1, r, v2, one0, zer0, Nat.one_ne_zero, if_true, if_false, eq_self, Bool.true_eq_false, Bool.false_eq_true]
  | k + 2, h => exact absurd h (by omega)
theorem k_jobq_f0 (hC : z_HC G nb pb) (M : zM) {V : zM} {s : Nat → Int32} (h : z_R true (0, 0) n B V s) (hF : z_F n J B s) {y w : Int32} (hx : y < 0 ∨ ¬ y < nI J) : z_call 114 [.ref 32, .int y, .int w] G (wr M nb V) = some (.inr 0, z_thr G, rfc (wr M nb V) 0) := by
  have hW := HC_W hC
  have r := k_job1 hC M V (x := y) (R_01 h hF) hx
  simp (disch := first | assumption | omega | exact Nat.le_of_ble_eq_true rfl | decide) only [ze_C_job, zk_C_job_0, xo_2_0, xo_0_1, xc_64_2 hC, xk_v, xk_n, xo_0_2, xo_50, xo_5, xo_46, xo_54, xo_55, xo_56, xc_17_5 hC, xo_63_2, xo_70, r, xk_x, if_true, if_false, eq_self, Bool.true_eq_false, Bool.false_eq_true]
theorem k_jobq_f1 (hC : z_HC G nb pb) (M : zM) {V : zM} {s : Nat → Int32} (h : z_R true (0, 0) n B V s) (hF : z_F n J B s) {j : Nat} {w : Int32} (hj : j < J) (hx : w < 0 ∨ ¬ w < nI 4) : z_call 114 [.ref 32, .int (nI j), .int w] G (wr M nb V) = some (.inr 1, z_thr G, rfc (wr M nb V) 1) := by
  have hW := HC_W hC
  have hJ := hF.2.2.1.2.2
  have r0 := k_job0 hC M V (R_01 h hF) (by omega) hj
  have r := k_ref1 hC (wr M nb V)
  by_cases c1 : w < 0
  · simp (disch := first | assumption | omega | exact Nat.le_of_ble_eq_true rfl | decide) only [ze_C_job, zk_C_job_0, xo_2_0, xo_0_1, xc_64_2 hC, xk_v, xk_n, xo_0_2, xo_50, xo_5, xo_46, xo_54, zk_C_job_19, xo_55, zk_C_job_20, xo_56, xc_17_5 hC, xo_63_2, xo_70, r0, c1, r, xk_x, if_true, if_false, eq_self, Bool.true_eq_false, Bool.false_eq_true]
  · have c2 := gt_of (k := 3) (by omega) c1 (hx.elim (fun q => absurd q c1) (fun q => q))
    simp (disch := first | assumption | omega | exact Nat.le_of_ble_eq_true rfl | decide) only [ze_C_job, zk_C_job_0, xo_2_0, xo_0_1, xc_64_2 hC, xk_v, xk_n, xo_0_2, xo_50, zk_C_job_10, xo_5, xo_46, xo_54, zk_C_job_19, xo_55, zk_C_job_20, xo_56, xc_17_5 hC, xo_63_2, xo_70, r0, c1, c2, r, xk_x, if_true, if_false, eq_self, Bool.true_eq_false, Bool.false_eq_true]
theorem k_jobq (hC : z_HC G nb pb) (M : zM) {V : zM} {s : Nat → Int32} (h : z_R true (0, 0) n B V s) (hF : z_F n J B s) {j k : Nat} (hj : j < J) (hk : k < 4) : z_call 114 [.ref 32, .int (nI j), .int (nI k)] G (wr M nb V) = some (.inl (some (.int (q_job n s j k))), G, wr M nb V) := by
  have hW := HC_W hC
  have hJ := hF.2.2.1.2.2
  have r0 := k_job0 hC M V (R_01 h hF) (by omega) hj
  have r := k_need1 hC (wr M nb V)
  have c1 : ¬ nI k < 0 := nI_pos (by omega)
  have c2 : ¬ nI 3 < nI k := nI_nlt (by omega) (by omega)
  have t0 := s_S_workOf hW M h hF (k := j) (by omega)
  have t1 := s_S_greatestLedger hW M h hF (k := j) (by omega)
  have t2 := s_S_leastLedger hW M h hF (k := j) (by omega)
  have t3 := s_S_holdersOf hW M h hF (k := j) (by omega)
  match k, hk with
  | 0, _ => simp (disch := first | assumption | omega | exact Nat.le_of_ble_eq_true rfl | decide) only [ze_C_job, zk_C_job_0, xo_2_0, xo_0_1, xc_64_2 hC, xk_v, xk_n, xo_0_2, xo_50, zk_C_job_10, xo_5, xo_46, zk_C_job_15, xo_54, xo_55, zk_C_job_20, xo_56, zk_C_job_52, xc_17_5 hC, xo_63_2, xo_70, zsw_4_0, c1, c2, r0, r, t0, if_true, if_false, eq_self, Bool.true_eq_false, Bool.false_eq_true] <;> rfl
  | 1, _ => simp (disch := first | assumption | omega | exact Nat.le_of_ble_eq_true rfl | decide) only [ze_C_job, zk_C_job_0, xo_2_0, xo_0_1, xc_64_2 hC, xk_v, xk_n, xo_0_2, xo_50, zk_C_job_10, xo_5, xo_46, zk_C_job_15, xo_54, xo_55, zk_C_job_20, xo_56, xc_17_5 hC, xo_63_2, xo_70, zk_C_job_61, zsw_4_1, c1, c2, r0, r, t1, if_true, if_false, eq_self, Bool.true_eq_false, Bool.false_eq_true] <;> rfl
  | 2, _ => simp (disch := first | assumption | omega | exact Nat.le_of_ble_eq_true rfl | decide) only [ze_C_job, zk_C_job_0, xo_2_0, xo_0_1, xc_64_2 hC, xk_v, xk_n, xo_0_2, xo_50, zk_C_job_10, xo_5, xo_46, zk_C_job_15, xo_54, xo_55, zk_C_job_20, xo_56, xc_17_5 hC, xo_63_2, xo_70, zk_C_job_70, zsw_4_2, c1, c2, r0, r, t2, if_true, if_false, eq_self, Bool.true_eq_false, Bool.false_eq_true] <;> rfl
  | 3, _ => simp (disch := first | assumption | omega | exact Nat.le_of_ble_eq_true rfl | decide) only [ze_C_job, zk_C_job_0, xo_2_0, xo_0_1, xc_64_2 hC, xk_v, xk_n, xo_0_2, xo_50, zk_C_job_10, xo_5, xo_46, zk_C_job_15, xo_54, xo_55, zk_C_job_20, xo_56, xc_17_5 hC, xo_63_2, xo_70, zk_C_job_79, zsw_4_3, c1, c2, r0, r, t3, if_true, if_false, eq_self, Bool.true_eq_false, Bool.false_eq_true] <;> rfl
  | k + 4, h => exact absurd h (by omega)
theorem k_link_f0 (hC : z_HC G nb pb) (M : zM) {V : zM} {s : Nat → Int32} (h : z_R true (0, 0) n B V s) (hF : z_F n J B s) {x y : Int32} (hx : x < 0 ∨ ¬ x < nI n) : z_call 117 [.ref 32, .int x, .int y] G (wr M nb V) = some (.inr 0, z_thr G, rfc (wr M nb V) 0) := by
  have hW := HC_W hC
  have r := k_mem1 hC M V (x := x) (R_00 h hF) hx
  simp (disch := first | assumption | omega | exact Nat.le_of_ble_eq_true rfl | decide) only [ze_C_link, zk_C_link_0, xo_2_0, xo_0_1, xc_64_2 hC, xk_v, xk_n, xo_0_2, xo_42, xo_5, xo_54, xo_55, xc_17_5 hC, xw_17w_4 hW, xw_32_2 hW, xo_32, xo_26, xo_23, xo_48, xo_72a, xo_72b, r, xk_x, if_true, if_false, eq_self, Bool.true_eq_false, Bool.false_eq_true]
theorem k_link_f1 (hC : z_HC G nb pb) (M : zM) {V : zM} {s : Nat → Int32} (h : z_R true (0, 0) n B V s) (hF : z_F n J B s) {i : Nat} {y : Int32} (hi : i < n) (hx : y < 0 ∨ ¬ y < nI n) : z_call 117 [.ref 32, .int (nI i), .int y] G (wr M nb V) = some (.inr 0, z_thr G, rfc (wr M nb V) 0) := by
  have hW := HC_W hC
  have r0 := k_mem0 hC M V (R_00 h hF) hF.1.1.2 hi
  have r := k_mem1 hC M V (x := y) (R_00 h hF) hx
  simp (disch := first | assumption | omega | exact Nat.le_of_ble_eq_true rfl | decide) only [ze_C_link, zk_C_link_0, xo_2_0, xo_0_1, xc_64_2 hC, xk_v, xk_n, xo_0_2, xo_42, xo_5, xo_54, xo_55, xc_17_5 hC, xw_17w_4 hW, xw_32_2 hW, xo_32, xo_26, xo_23, xo_48, xo_72a, xo_72b, r0, r, xk_x, if_true, if_false, eq_self, Bool.true_eq_false, Bool.false_eq_true]
theorem k_link_f2 (hC : z_HC G nb pb) (M : zM) {V : zM} {s : Nat → Int32} (h : z_R true (0, 0) n B V s) (hF : z_F n J B s) {i : Nat} (hi : i < n) : z_call 117 [.ref 32, .int (nI i), .int (nI i)] G (wr M nb V) = some (.inr 1, z_thr G, rfc (wr M nb V) 1) := by
  have hW := HC_W hC
  have r0 := k_mem0 hC M V (R_00 h hF) hF.1.1.2 hi
  have r := k_ref1 hC (wr M nb V)
  simp (disch := first | assumption | omega | exact Nat.le_of_ble_eq_true rfl | decide) only [ze_C_link, zk_C_link_0, xo_2_0, xo_0_1, xc_64_2 hC, xk_v, xk_n, xo_0_2, xo_42, xo_5, xo_54, zk_C_link_20, xo_55, zk_C_link_21, xc_17_5 hC, xw_17w_4 hW, xw_32_2 hW, xo_32, xo_26, xo_23, xo_48, xo_72a, xo_72b, r0, r, xk_x, if_true, if_false, eq_self, Bool.true_eq_false, Bool.false_eq_true]
theorem k_link (hC : z_HC G nb pb) (M : zM) {V : zM} {s : Nat → Int32} (h : z_R true (0, 0) n B V s) (hF : z_F n J B s) {i j : Nat} (hi : i < n) (hj : j < n) (ne : i ≠ j) : z_call 117 [.ref 32, .int (nI i), .int (nI j)] G (wr M nb V) = some (.inl (some (.int (z_b (!zf_has (s (25 + i)) (nI j))))), G, wr M nb V) := by
  have hW := HC_W hC
  have hn := hF.1.1.2
  have hi8 : i < 8 := by omega
  have r0 := k_mem0 hC M V (R_00 h hF) hF.1.1.2 hi
  have r1 := k_mem0 hC M V (R_00 h hF) hF.1.1.2 hj
  have r := k_need1 hC (wr M nb V)
  have hne : (nI i = nI j) = False := eq_false (fun q => ne ((nI_eq (by omega) (by omega)).mp q))
  obtain ⟨⟨w, w1, w2, w3⟩, _⟩ := h.2.1 i hi
  have w4 := w3 j (by omega)
  rw [decide_eq_true (show j < n ∧ j ≠ i from ⟨hj, fun q => ne q.symm⟩), Bool.true_and] at w4
  have w5 : (nI w &&& (nI 1 <<< (nI j &&& 31)) = 0) = (w.testBit j = false) := propext (z_andN w w1 j (by omega))
  rw [← w4]
  cases hc : w.testBit j
  · rw [hc] at w5
    simp (disch := first | assumption | omega | exact Nat.le_of_ble_eq_true rfl | decide) only [ze_C_link, zk_C_link_0, xo_2_0, xo_0_1, xc_64_2 hC, xk_v, xk_n, xo_0_2, xo_42, zk_C_link_16, xo_5, xo_54, xo_55, zk_C_link_21, xc_17_5 hC, xw_17w_4 hW, xw_32_2 hW, xo_32, xo_26, xo_23, xo_48, zk_C_link_44, zk_C_link_45, xo_72a, xo_72b, r0, r1, r, hne, w2, w5, xo_72a, if_true, if_false, eq_self, Bool.true_eq_false, Bool.false_eq_true] <;> rfl
  · rw [hc] at w5
    simp (disch := first | assumption | omega | exact Nat.le_of_ble_eq_true rfl | decide) only [ze_C_link, zk_C_link_0, xo_2_0, xo_0_1, xc_64_2 hC, xk_v, xk_n, xo_0_2, xo_42, zk_C_link_16, xo_5, xo_54, xo_55, zk_C_link_21, xc_17_5 hC, xw_17w_4 hW, xw_32_2 hW, xo_32, xo_26, xo_23, xo_48, zk_C_link_40, zk_C_link_45, xo_72a, xo_72b, r0, r1, r, hne, w2, w5, xo_72b, if_true, if_false, eq_self, Bool.true_eq_false, Bool.false_eq_true] <;> rfl
end
