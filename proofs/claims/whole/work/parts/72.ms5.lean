/-! ===== the reference's storm: all healed, all up, until they are one ===== -/
theorem l_M_storm112 {G : zG} (hM : z_HM G) (M : zM) {n J B : Nat} {s : Nat → Int32} (hF : z_F n J B s) (hL : z_Lk n s) (hB : B ≤ 60000000) (x : Int32) (w1 : Int32) (w2 w3 w4 : Value) : ∃ s' nw h, z_ex 244 (z_blk 244 112) [.ref 455, .int w1, w2, w3, w4] [] G (md M x s) = some (.inl (some (.int (z_on (f_un n 300 (f_s4 n s))))), G, mm (md M x (f_s4 n s)) s' nw h) := by
  have hn : n ≤ 8 := hF.1.1.2
  have hhe := c_M_heals hM (md M x s) (n := n) (by rw [md_s]; exact hF.1.1.1) hn (by rw [md_s]; exact hL)
  rw [md_s, md_us] at hhe
  have F0 := F_he hF
  have hM' := hM
  obtain ⟨k0, ⟨r1, r8, r9, r10, r11, r12, r13, r17⟩, ⟨q1, q2⟩, ⟨q3, q4⟩, ⟨q5, q6⟩, ⟨q7, q8⟩, ⟨q9, q10⟩, ⟨q11, q12⟩, ⟨q13, q14⟩, ⟨q15, q16⟩, hp⟩ := id hM; have kr : ∀ a, z_rc a = 7 → z_kd G 455 = (0, z_rc a) := fun a h => (by rw [h]; exact k0)
  have a0 : z_ex 244 (z_blk 244 112) [.ref 455, .int w1, w2, w3, w4] [] G (md M x s) = z_ex 244 (z_blk 244 119) [.ref 455, .int w1, .int (nI 0), w3, w4] [] G (md M x (f_he n s)) := by
    simp (disch := first | assumption | exact kr _ rfl | omega | exact Nat.le_of_ble_eq_true rfl) only [xo_2_0, xo_0_1, xo_18, xo_5, xo_10_2i, xo_10_2r, xo_10_2n, xo_55, xo_0_2, xo_6, xo_45, xo_64_2, xk_v, xk_n, xo_10_3i, xo_10_3r, xo_10_3n, xo_0_3, xo_49, xo_17, xo_32, xo_11_4i, xo_11_4r, xo_11_4n, xo_1_4, xo_48, xo_54, xo_41, xo_43, xo_26, xo_64_1, xo_20, xo_15_2i, xo_15_2r, xo_15_2n, zk_M_storm_112, xo_70, zr_M_heals, hhe, if_true, if_false, eq_self, Bool.true_eq_false, Bool.false_eq_true, and_true, true_and, and_false, false_and, or_true, true_or, or_false, false_or, ne_eq, not_true_eq_false, not_false_eq_true, decide_true, decide_false, z_sA_id]
  have e := z_loop (fun k t => z_ex 244 (z_blk 244 119) [.ref 455, .int w1, .int (nI k), w3, w4] [] G (md M x t)) f_up1 n (fun k t => z_F n J (B + k) t) (by
    intro k t hk hT
    have hk8 : k < 8 := by omega
    have hlt : nI k < nI n := nI_lt hk (by omega)
    have h0 : md M x t 458 0 = nI n := by rw [md_s]; exact hT.1.1.1
    have hdn := c_M_isDown hM' (md M x t) hk8
    have hga := c_M_goesAlone hM' (md M x t) (n := n) (by rw [md_s]; exact hT.1) hk8
    rw [md_s] at hdn hga
    rw [md_us] at hga
    unfold f_up1
    by_cases hc : t (41 + 28 * k) = nI 2
    · rw [if_pos hc]
      refine ⟨?_, (FX_al hT hk (by omega)).1⟩
      conv => lhs; rw [zk_M_storm_119]
      simp (disch := first | assumption | exact kr _ rfl | omega | exact Nat.le_of_ble_eq_true rfl) only [xo_2_0, xo_0_1, xo_18, xo_5, xo_10_2i, xo_10_2r, xo_10_2n, xo_55, xo_0_2, xo_6, xo_45, xo_64_2, xk_v, xk_n, xo_10_3i, xo_10_3r, xo_10_3n, xo_0_3, xo_49, xo_17, xo_32, xo_11_4i, xo_11_4r, xo_11_4n, xo_1_4, xo_48, xo_54, xo_41, xo_43, xo_26, xo_64_1, xo_20, xo_15_2i, xo_15_2r, xo_15_2n, zk_M_storm_129, zk_M_storm_137, zk_M_storm_142, xo_70, nI_add, r9, h0, hlt, zr_M_isDown, hdn, hc, hga, z_b0, if_true, if_false, eq_self, Bool.true_eq_false, Bool.false_eq_true, and_true, true_and, and_false, false_and, or_true, true_or, or_false, false_or, ne_eq, not_true_eq_false, not_false_eq_true, decide_true, decide_false, z_sA_id]
    · rw [if_neg hc]
      refine ⟨?_, z_F_mono (by omega) hT⟩
      conv => lhs; rw [zk_M_storm_119]
      simp (disch := first | assumption | exact kr _ rfl | omega | exact Nat.le_of_ble_eq_true rfl) only [xo_2_0, xo_0_1, xo_18, xo_5, xo_10_2i, xo_10_2r, xo_10_2n, xo_55, xo_0_2, xo_6, xo_45, xo_64_2, xk_v, xk_n, xo_10_3i, xo_10_3r, xo_10_3n, xo_0_3, xo_49, xo_17, xo_32, xo_11_4i, xo_11_4r, xo_11_4n, xo_1_4, xo_48, xo_54, xo_41, xo_43, xo_26, xo_64_1, xo_20, xo_15_2i, xo_15_2r, xo_15_2n, zk_M_storm_129, zk_M_storm_142, xo_70, nI_add, r9, h0, hlt, zr_M_isDown, hdn, hc, z_b0, if_true, if_false, eq_self, Bool.true_eq_false, Bool.false_eq_true, and_true, true_and, and_false, false_and, or_true, true_or, or_false, false_or, ne_eq, not_true_eq_false, not_false_eq_true, decide_true, decide_false, z_sA_id]) n 0 (f_he n s) (by omega) F0
  have F1 := z_fd_inv (f := f_up1) (fun k t => z_F n J (B + k) t) n 0 (f_he n s) F0 (by
    intro k t _ hk hT
    unfold f_up1
    split
    · exact (FX_al hT (by omega) (by omega)).1
    · exact z_F_mono (by omega) hT)
  have F2 : z_F n J (B + 8) (f_s4 n s) := z_F_mono (by omega) F1
  have e4 : z_fd f_up1 n 0 (f_he n s) = f_s4 n s := rfl
  rw [e4] at e
  have h0 : md M x (f_s4 n s) 458 0 = nI n := by rw [md_s]; exact F2.1.1.1
  have hltn : ¬ nI n < nI n := nI_nlt (Nat.le_refl _) (by omega)
  obtain ⟨s', nw, h, u⟩ := c_M_untilNow hM' (md M x (f_s4 n s)) (n := n) (J := J) (B := B + 8) (by rw [md_s]; exact F2) (by omega)
  rw [md_s] at u
  refine ⟨s', nw, h, ?_⟩
  rw [a0, e]
  conv => lhs; rw [zk_M_storm_119]
  simp (disch := first | assumption | exact kr _ rfl | omega | exact Nat.le_of_ble_eq_true rfl) only [xo_2_0, xo_0_1, xo_18, xo_5, xo_10_2i, xo_10_2r, xo_10_2n, xo_55, xo_0_2, xo_6, xo_45, xo_64_2, xk_v, xk_n, xo_10_3i, xo_10_3r, xo_10_3n, xo_0_3, xo_49, xo_17, xo_32, xo_11_4i, xo_11_4r, xo_11_4n, xo_1_4, xo_48, xo_54, xo_41, xo_43, xo_26, xo_64_1, xo_20, xo_15_2i, xo_15_2r, xo_15_2n, zk_M_storm_148, xo_70, r9, h0, hltn, zr_M_untilNow, u, if_true, if_false, eq_self, Bool.true_eq_false, Bool.false_eq_true, and_true, true_and, and_false, false_and, or_true, true_or, or_false, false_or, ne_eq, not_true_eq_false, not_false_eq_true, decide_true, decide_false, z_sA_id]
