/-! ===== the reference's storm: one blow ===== -/
theorem l_M_storm13 {G : zG} (hM : z_HM G) (M : zM) {n J B : Nat} {s : Nat → Int32} (hF : z_F n J B s) (hL : z_Lk n s) (x : Int32) (k : Nat) (w1 w3 w4 : Value) : ∃ w, z_ex 244 (z_blk 244 13) [.ref 455, w1, .int (nI k), w3, w4] [] G (md M x s) = z_ex 244 (z_blk 244 93) [.ref 455, w1, .int (nI k), .int (f_dv (f_dr x) (nI 4)), w] [] G (md M (f_s1 n (s, x)).2 (f_s1 n (s, x)).1) := by
  have hn : n ≤ 8 := hF.1.1.2
  have hn2 : 2 ≤ n := hF.2.1
  have h0 : ∀ y, md M y s 458 0 = nI n := fun y => by rw [md_s]; exact hF.1.1.1
  obtain ⟨hp1, hp2⟩ := z_2n_le n hn
  have hn256 : n ≤ 256 := by omega
  have hn1 : 1 ≤ n := by omega
  have d1 := md_draw hM M x s (k := 4) (by omega) (by omega)
  have dn := md_draw hM M (f_dr x) s hn1 hn256
  have dp := md_draw hM M (f_dr x) s hp1 hp2
  have h2n := z_2n n hn
  unfold f_s1
  dsimp only
  by_cases c0 : f_dv (f_dr x) (nI 4) = 0
  · rw [if_pos c0]
    obtain ⟨i, i1, i2⟩ := f_dvN (f_dr (f_dr x)) hn1 hn256
    have hz : z_n (f_dv (f_dr (f_dr x)) (nI n)) = i := by rw [i2]; exact z_nN (by omega)
    have hi8 : i < 8 := by omega
    rw [i2] at dn
    rw [hz]
    dsimp only
    have hdn := c_M_isDown hM (md M (f_dr (f_dr x)) s) hi8
    have hga := c_M_goesAlone hM (md M (f_dr (f_dr x)) s) (n := n) (by rw [md_s]; exact hF.1) hi8
    have hfa := c_M_falls hM (md M (f_dr (f_dr x)) s) (n := n) (J := J) (B := B) (by rw [md_s]; exact hF) i1
    rw [md_s] at hdn hga hfa
    rw [md_us] at hga hfa
    refine ⟨.int (nI i), ?_⟩
    unfold f_tu
    obtain ⟨k0, ⟨r1, r8, r9, r10, r11, r12, r13, r17⟩, ⟨q1, q2⟩, ⟨q3, q4⟩, ⟨q5, q6⟩, ⟨q7, q8⟩, ⟨q9, q10⟩, ⟨q11, q12⟩, ⟨q13, q14⟩, ⟨q15, q16⟩, hp⟩ := id hM; have kr : ∀ a, z_rc a = 7 → z_kd G 455 = (0, z_rc a) := fun a h => (by rw [h]; exact k0)
    by_cases hc : s (41 + 28 * i) = nI 2
    · rw [if_pos hc]
      simp (disch := first | assumption | exact kr _ rfl | omega | exact Nat.le_of_ble_eq_true rfl) only [xo_2_0, xo_0_1, xo_18, xo_5, xo_10_2i, xo_10_2r, xo_10_2n, xo_55, xo_0_2, xo_6, xo_45, zk_M_storm_13, xo_64_2, xk_v, xk_n, xo_10_3i, xo_10_3r, xo_10_3n, xo_0_3, xo_49, zk_M_storm_23, xo_17, xo_32, xo_11_4i, xo_11_4r, xo_11_4n, xo_1_4, xo_48, zk_M_storm_44, xo_54, xo_41, zk_M_storm_60, xo_43, xo_26, xo_64_1, xo_20, xo_15_2i, xo_15_2r, xo_15_2n, xo_70, r9, h0, d1, dn, c0, zr_M_draw, zr_M_isDown, hdn, hc, hga, z_b0, if_true, if_false, eq_self, Bool.true_eq_false, Bool.false_eq_true, and_true, true_and, and_false, false_and, or_true, true_or, or_false, false_or, ne_eq, not_true_eq_false, not_false_eq_true, decide_true, decide_false, z_sA_id]
    · rw [if_neg hc]
      simp (disch := first | assumption | exact kr _ rfl | omega | exact Nat.le_of_ble_eq_true rfl) only [xo_2_0, xo_0_1, xo_18, xo_5, xo_10_2i, xo_10_2r, xo_10_2n, xo_55, xo_0_2, xo_6, xo_45, zk_M_storm_13, xo_64_2, xk_v, xk_n, xo_10_3i, xo_10_3r, xo_10_3n, xo_0_3, xo_49, zk_M_storm_23, xo_17, xo_32, xo_11_4i, xo_11_4r, xo_11_4n, xo_1_4, xo_48, xo_54, zk_M_storm_53, xo_41, zk_M_storm_60, xo_43, xo_26, xo_64_1, xo_20, xo_15_2i, xo_15_2r, xo_15_2n, xo_70, r9, h0, d1, dn, c0, zr_M_draw, zr_M_isDown, hdn, hc, hfa, z_b0, if_true, if_false, eq_self, Bool.true_eq_false, Bool.false_eq_true, and_true, true_and, and_false, false_and, or_true, true_or, or_false, false_or, ne_eq, not_true_eq_false, not_false_eq_true, decide_true, decide_false, z_sA_id]
  · rw [if_neg c0]
    by_cases c1 : f_dv (f_dr x) (nI 4) = nI 1
    · rw [if_pos c1]
      dsimp only
      have hcu := c_M_cuts hM (md M (f_dr (f_dr x)) s) (h0 _) hn (f_dv (f_dr (f_dr x)) (nI (2 ^ n)))
      rw [md_s, md_us] at hcu
      refine ⟨w4, ?_⟩
      obtain ⟨k0, ⟨r1, r8, r9, r10, r11, r12, r13, r17⟩, ⟨q1, q2⟩, ⟨q3, q4⟩, ⟨q5, q6⟩, ⟨q7, q8⟩, ⟨q9, q10⟩, ⟨q11, q12⟩, ⟨q13, q14⟩, ⟨q15, q16⟩, hp⟩ := id hM; have kr : ∀ a, z_rc a = 7 → z_kd G 455 = (0, z_rc a) := fun a h => (by rw [h]; exact k0)
      simp (disch := first | assumption | exact kr _ rfl | omega | exact Nat.le_of_ble_eq_true rfl) only [xo_2_0, xo_0_1, xo_18, xo_5, xo_10_2i, xo_10_2r, xo_10_2n, xo_55, xo_0_2, xo_6, xo_45, zk_M_storm_13, xo_64_2, xk_v, xk_n, xo_10_3i, xo_10_3r, xo_10_3n, xo_0_3, xo_49, xo_17, xo_32, xo_11_4i, xo_11_4r, xo_11_4n, xo_1_4, xo_48, xo_54, xo_41, zk_M_storm_63, xo_43, zk_M_storm_68, xo_26, xo_64_1, xo_20, xo_15_2i, xo_15_2r, xo_15_2n, xo_70, r9, h0, h2n, d1, dp, c1, zr_M_draw, hcu, if_true, if_false, eq_self, Bool.true_eq_false, Bool.false_eq_true, and_true, true_and, and_false, false_and, or_true, true_or, or_false, false_or, ne_eq, not_true_eq_false, not_false_eq_true, decide_true, decide_false, z_sA_id]
      rw [if_neg (show ¬ nI 1 = 0 by decide)]
    · rw [if_neg c1]
      dsimp only
      have hhe := c_M_heals hM (md M (f_dr x) s) (h0 _) hn (by rw [md_s]; exact hL)
      rw [md_s, md_us] at hhe
      refine ⟨w4, ?_⟩
      obtain ⟨k0, ⟨r1, r8, r9, r10, r11, r12, r13, r17⟩, ⟨q1, q2⟩, ⟨q3, q4⟩, ⟨q5, q6⟩, ⟨q7, q8⟩, ⟨q9, q10⟩, ⟨q11, q12⟩, ⟨q13, q14⟩, ⟨q15, q16⟩, hp⟩ := id hM; have kr : ∀ a, z_rc a = 7 → z_kd G 455 = (0, z_rc a) := fun a h => (by rw [h]; exact k0)
      simp (disch := first | assumption | exact kr _ rfl | omega | exact Nat.le_of_ble_eq_true rfl) only [xo_2_0, xo_0_1, xo_18, xo_5, xo_10_2i, xo_10_2r, xo_10_2n, xo_55, xo_0_2, xo_6, xo_45, zk_M_storm_13, xo_64_2, xk_v, xk_n, xo_10_3i, xo_10_3r, xo_10_3n, xo_0_3, xo_49, xo_17, xo_32, xo_11_4i, xo_11_4r, xo_11_4n, xo_1_4, xo_48, xo_54, xo_41, zk_M_storm_63, xo_43, xo_26, zk_M_storm_88, xo_64_1, xo_20, xo_15_2i, xo_15_2r, xo_15_2n, xo_70, r9, d1, c0, c1, zr_M_heals, hhe, if_true, if_false, eq_self, Bool.true_eq_false, Bool.false_eq_true, and_true, true_and, and_false, false_and, or_true, true_or, or_false, false_or, ne_eq, not_true_eq_false, not_false_eq_true, decide_true, decide_false, z_sA_id]
