/-! ===== the class's questions, second ===== -/
section
variable {G : zG} {nb n J B : Nat} {pb : Nat → Nat}
theorem R_let {V : zM} {s : Nat → Int32} (h : z_R true (0, 0) n B V s) : ∃ m, m ≤ 300 ∧ s 8 = nI m ∧ V 4 1 = nI m ∧ ∀ k, k < m → z_LR true (fun t => V 5 (k * 12 + t)) (fun t => s (265 + 13 * k + t)) := by
  obtain ⟨_, sz, _, g2, _, _, _, g6, g7, _, g9⟩ := h.2.2.2.2.1
  have z0 : z_cn V 0 = 0 := rfl
  dsimp only at g6 g7 g9
  rw [z0] at g6 g7
  refine ⟨sz, by omega, by rw [g6, Nat.zero_add, Nat.sub_zero], g2, fun k hk => ?_⟩
  have e := g9 k (by omega) hk
  rw [z0, Nat.zero_add, Nat.sub_zero] at e
  exact e
theorem k_letter_f0 (hC : z_HC G nb pb) (M : zM) {V : zM} {x w : Int32} {m : Nat} (h1 : V 4 1 = nI m) (hx : x < 0 ∨ ¬ x < nI m) : z_call 119 [.ref 32, .int x, .int w] G (wr M nb V) = some (.inr 0, z_thr G, rfc (wr M nb V) 0) := by
  have hW := HC_W hC
  have r := k_ref0 hC (wr M nb V)
  by_cases c1 : x < 0
  · simp (disch := first | assumption | omega | exact Nat.le_of_ble_eq_true rfl | decide) only [ze_C_letter, zk_C_letter_0, xo_2_0, xo_0_1, xo_50, xc_17_5 hC, xw_17w_6 hW, xw_16a hW, xw_16w hW, xo_45, xo_5, xo_54, zk_C_letter_23, xo_55, zk_C_letter_24, xc_64_2 hC, xk_v, xk_n, xo_0_2, xo_6, xo_46, xw_64a_3 hW, xo_10_3i, xo_10_3r, xo_10_3n, xo_56, xo_70, xo_0_3, xo_21, xo_43, c1, r, xk_x, if_true, if_false, eq_self, Bool.true_eq_false, Bool.false_eq_true]
  · have c2 : ¬ x < nI m := hx.elim (fun q => absurd q c1) (fun q => q)
    simp (disch := first | assumption | omega | exact Nat.le_of_ble_eq_true rfl | decide) only [ze_C_letter, zk_C_letter_0, xo_2_0, xo_0_1, xo_50, zk_C_letter_5, xc_17_5 hC, xw_17w_6 hW, xw_16a hW, xw_16w hW, xo_45, xo_5, xo_54, zk_C_letter_23, xo_55, zk_C_letter_24, xc_64_2 hC, xk_v, xk_n, xo_0_2, xo_6, xo_46, xw_64a_3 hW, xo_10_3i, xo_10_3r, xo_10_3n, xo_56, xo_70, xo_0_3, xo_21, xo_43, h1, c1, c2, r, xk_x, if_true, if_false, eq_self, Bool.true_eq_false, Bool.false_eq_true]
theorem k_letter_f1 (hC : z_HC G nb pb) (M : zM) {V : zM} {k : Nat} {w : Int32} {m : Nat} (h1 : V 4 1 = nI m) (hm : m ≤ 300) (hk : k < m) (hx : w < 0 ∨ ¬ w < nI 7) : z_call 119 [.ref 32, .int (nI k), .int w] G (wr M nb V) = some (.inr 1, z_thr G, rfc (wr M nb V) 1) := by
  have hW := HC_W hC
  have r0 := k_need0 hC (wr M nb V)
  have r := k_ref1 hC (wr M nb V)
  have d1 : ¬ nI k < 0 := nI_pos (by omega)
  have d2 : nI k < nI m := nI_lt hk (by omega)
  by_cases c1 : w < 0
  · simp (disch := first | assumption | omega | exact Nat.le_of_ble_eq_true rfl | decide) only [ze_C_letter, zk_C_letter_0, xo_2_0, xo_0_1, xo_50, zk_C_letter_5, xc_17_5 hC, xw_17w_6 hW, xw_16a hW, xw_16w hW, xo_45, zk_C_letter_19, xo_5, xo_54, xo_55, zk_C_letter_24, xc_64_2 hC, xk_v, xk_n, xo_0_2, xo_6, xo_46, zk_C_letter_42, zk_C_letter_43, xw_64a_3 hW, xo_10_3i, xo_10_3r, xo_10_3n, xo_56, xo_70, xo_0_3, xo_21, xo_43, h1, d1, d2, r0, c1, r, xk_x, if_true, if_false, eq_self, Bool.true_eq_false, Bool.false_eq_true]
  · have c2 := gt_of (k := 6) (by omega) c1 (hx.elim (fun q => absurd q c1) (fun q => q))
    simp (disch := first | assumption | omega | exact Nat.le_of_ble_eq_true rfl | decide) only [ze_C_letter, zk_C_letter_0, xo_2_0, xo_0_1, xo_50, zk_C_letter_5, xc_17_5 hC, xw_17w_6 hW, xw_16a hW, xw_16w hW, xo_45, zk_C_letter_19, xo_5, xo_54, xo_55, zk_C_letter_24, xc_64_2 hC, xk_v, xk_n, xo_0_2, zk_C_letter_32, xo_6, xo_46, zk_C_letter_42, zk_C_letter_43, xw_64a_3 hW, xo_10_3i, xo_10_3r, xo_10_3n, xo_56, xo_70, xo_0_3, xo_21, xo_43, h1, d1, d2, r0, c1, c2, r, xk_x, if_true, if_false, eq_self, Bool.true_eq_false, Bool.false_eq_true]
theorem k_letter (hC : z_HC G nb pb) (M : zM) {V : zM} {s : Nat → Int32} (h : z_R true (0, 0) n B V s) (hF : z_F n J B s) {k w m : Nat} (h8 : s 8 = nI m) (hm : m ≤ 300) (h1 : V 4 1 = nI m) (hL : z_LR true (fun t => V 5 (k * 12 + t)) (fun t => s (265 + 13 * k + t))) (hk : k < m) (hw : w < 7) : z_call 119 [.ref 32, .int (nI k), .int (nI w)] G (wr M nb V) = some (.inl (some (.int (q_let s k w))), G, wr M nb V) := by
  have hW := HC_W hC
  have r0 := k_need0 hC (wr M nb V)
  have r := k_need1 hC (wr M nb V)
  have d1 : ¬ nI k < 0 := nI_pos (by omega)
  have d2 : nI k < nI m := nI_lt hk (by omega)
  have c1 : ¬ nI w < 0 := nI_pos (by omega)
  have c2 : ¬ nI 6 < nI w := nI_nlt (by omega) (by omega)
  have hk6 : k < 600 := by omega
  have a0 := c_A_field hW M V (k := k) (f := 0) hk6 (by omega)
  have a1 := c_A_field hW M V (k := k) (f := 1) hk6 (by omega)
  have a2 := c_A_field hW M V (k := k) (f := 2) hk6 (by omega)
  have a3 := c_A_field hW M V (k := k) (f := 3) hk6 (by omega)
  have a4 := c_A_field hW M V (k := k) (f := 4) hk6 (by omega)
  have a5 := c_A_field hW M V (k := k) (f := 5) hk6 (by omega)
  obtain ⟨p1, p2, p3, _⟩ := hL
  have b0 := p1 0 (by omega)
  have b1 := p1 1 (by omega)
  have b2 := p1 2 (by omega)
  have b3 := p1 3 (by omega)
  have b4 := p1 4 (by omega)
  dsimp only at b0 b1 b2 b3 b4 p2 p3
  rw [b0] at a0
  rw [b1] at a1
  rw [b2] at a2
  rw [b3] at a3
  rw [b4] at a4
  have v02 := h.1.2.2.1
  have hCl := hF.2.2.2.2.2 k (by rw [h8, z_nN (by omega)]; exact hk)
  obtain ⟨_, _, kd, _, _, k8, _, _, k2, k5, k7, ⟨k5', _⟩, k7', _⟩ := hCl
  dsimp only at k2 k5 k7 k5' k7'
  have hpre : z_call 119 [.ref 32, .int (nI k), .int (nI w)] G (wr M nb V) = z_ex 119 (z_blk 119 (z_swt 5 (nI w))) [.ref 32, .int (nI k), .int (nI w), .int (s (265 + 13 * k + 2))] [] G (wr M nb V) := by
    simp (disch := first | assumption | omega | exact Nat.le_of_ble_eq_true rfl | decide) only [ze_C_letter, zk_C_letter_0, xo_2_0, xo_0_1, xo_50, zk_C_letter_5, xc_17_5 hC, xw_17w_6 hW, xw_16a hW, xw_16w hW, xo_45, zk_C_letter_19, xo_5, xo_54, xo_55, zk_C_letter_24, xc_64_2 hC, xk_v, xk_n, xo_0_2, zk_C_letter_32, xo_6, xo_46, zk_C_letter_38, zk_C_letter_43, xw_64a_3 hW, xo_10_3i, xo_10_3r, xo_10_3n, xo_56, xo_70, xo_0_3, xo_21, xo_43, h1, d1, d2, r0, c1, c2, r, a2, if_true, if_false, eq_self, Bool.true_eq_false, Bool.false_eq_true]
  rw [hpre]
  clear hpre
  match w, hw with
  | 0, _ => simp (disch := first | assumption | omega | exact Nat.le_of_ble_eq_true rfl | decide) only [zsw_5_0, xo_2_0, xo_0_1, xo_50, xc_17_5 hC, xw_17w_6 hW, xw_16a hW, xw_16w hW, xo_45, xo_5, xo_54, xo_55, xc_64_2 hC, xk_v, xk_n, xo_0_2, xo_6, xo_46, xw_64a_3 hW, xo_10_3i, xo_10_3r, xo_10_3n, xo_56, zk_C_letter_100, xo_70, xo_0_3, xo_21, xo_43, a0, if_true, if_false, eq_self, Bool.true_eq_false, Bool.false_eq_true] <;> rfl
  | 1, _ => simp (disch := first | assumption | omega | exact Nat.le_of_ble_eq_true rfl | decide) only [zsw_5_1, xo_2_0, xo_0_1, xo_50, xc_17_5 hC, xw_17w_6 hW, xw_16a hW, xw_16w hW, xo_45, xo_5, xo_54, xo_55, xc_64_2 hC, xk_v, xk_n, xo_0_2, xo_6, xo_46, xw_64a_3 hW, xo_10_3i, xo_10_3r, xo_10_3n, xo_56, xo_70, zk_C_letter_113, xo_0_3, xo_21, xo_43, a1, if_true, if_false, eq_self, Bool.true_eq_false, Bool.false_eq_true] <;> rfl
  | 2, _ => simp (disch := first | assumption | omega | exact Nat.le_of_ble_eq_true rfl | decide) only [zsw_5_2, xo_2_0, xo_0_1, xo_50, xc_17_5 hC, xw_17w_6 hW, xw_16a hW, xw_16w hW, xo_45, xo_5, xo_54, xo_55, xc_64_2 hC, xk_v, xk_n, xo_0_2, xo_6, xo_46, xw_64a_3 hW, xo_10_3i, xo_10_3r, xo_10_3n, xo_56, xo_70, zk_C_letter_126, xo_0_3, xo_21, xo_43, if_true, if_false, eq_self, Bool.true_eq_false, Bool.false_eq_true] <;> rfl
  | 3, _ => simp (disch := first | assumption | omega | exact Nat.le_of_ble_eq_true rfl | decide) only [zsw_5_3, xo_2_0, xo_0_1, xo_50, xc_17_5 hC, xw_17w_6 hW, xw_16a hW, xw_16w hW, xo_45, xo_5, xo_54, xo_55, xc_64_2 hC, xk_v, xk_n, xo_0_2, xo_6, xo_46, xw_64a_3 hW, xo_10_3i, xo_10_3r, xo_10_3n, xo_56, xo_70, xo_0_3, zk_C_letter_128, xo_21, xo_43, a3, v02, if_true, if_false, eq_self, Bool.true_eq_false, Bool.false_eq_true] <;> rfl
  | 4, _ => simp (disch := first | assumption | omega | exact Nat.le_of_ble_eq_true rfl | decide) only [zsw_5_4, xo_2_0, xo_0_1, xo_50, xc_17_5 hC, xw_17w_6 hW, xw_16a hW, xw_16w hW, xo_45, xo_5, xo_54, xo_55, xc_64_2 hC, xk_v, xk_n, xo_0_2, xo_6, xo_46, xw_64a_3 hW, xo_10_3i, xo_10_3r, xo_10_3n, xo_56, xo_70, xo_0_3, xo_21, zk_C_letter_149, xo_43, a4, if_true, if_false, eq_self, Bool.true_eq_false, Bool.false_eq_true] <;> rfl
  | 5, _ =>
    by_cases hc : kd = 5
    · subst hc
      rw [p2 k2] at a5
      simp (disch := first | assumption | omega | exact Nat.le_of_ble_eq_true rfl | decide) only [zsw_5_5, xo_2_0, xo_0_1, xo_50, xc_17_5 hC, xw_17w_6 hW, xw_16a hW, xw_16w hW, xo_45, xo_5, xo_54, xo_55, xc_64_2 hC, xk_v, xk_n, xo_0_2, xo_6, xo_46, xw_64a_3 hW, xo_10_3i, xo_10_3r, xo_10_3n, xo_56, xo_70, xo_0_3, xo_21, zk_C_letter_162, xo_43, zk_C_letter_167, zk_C_letter_183, a5, k2, if_true, if_false, eq_self, Bool.true_eq_false, Bool.false_eq_true]
      rfl
    · have hne : (nI kd = nI 5) = False := eq_false (fun q => hc ((nI_eq (by omega) (by omega)).mp q))
      simp (disch := first | assumption | omega | exact Nat.le_of_ble_eq_true rfl | decide) only [zsw_5_5, xo_2_0, xo_0_1, xo_50, xc_17_5 hC, xw_17w_6 hW, xw_16a hW, xw_16w hW, xo_45, xo_5, xo_54, xo_55, xc_64_2 hC, xk_v, xk_n, xo_0_2, xo_6, xo_46, xw_64a_3 hW, xo_10_3i, xo_10_3r, xo_10_3n, xo_56, xo_70, xo_0_3, xo_21, zk_C_letter_162, xo_43, zk_C_letter_182, zk_C_letter_183, k2, hne, if_true, if_false, eq_self, Bool.true_eq_false, Bool.false_eq_true]
      rw [← k5' hc]
      rfl
  | 6, _ =>
    by_cases hc : kd = 7
    · subst hc
      rw [p3 k2] at a5
      simp (disch := first | assumption | omega | exact Nat.le_of_ble_eq_true rfl | decide) only [zsw_5_6, xo_2_0, xo_0_1, xo_50, xc_17_5 hC, xw_17w_6 hW, xw_16a hW, xw_16w hW, xo_45, xo_5, xo_54, xo_55, xc_64_2 hC, xk_v, xk_n, xo_0_2, xo_6, xo_46, xw_64a_3 hW, xo_10_3i, xo_10_3r, xo_10_3n, xo_56, xo_70, xo_0_3, xo_21, xo_43, zk_C_letter_184, zk_C_letter_190, zk_C_letter_206, a5, k2, if_true, if_false, eq_self, Bool.true_eq_false, Bool.false_eq_true]
      rfl
    · have hne : (nI kd = nI 7) = False := eq_false (fun q => hc ((nI_eq (by omega) (by omega)).mp q))
      simp (disch := first | assumption | omega | exact Nat.le_of_ble_eq_true rfl | decide) only [zsw_5_6, xo_2_0, xo_0_1, xo_50, xc_17_5 hC, xw_17w_6 hW, xw_16a hW, xw_16w hW, xo_45, xo_5, xo_54, xo_55, xc_64_2 hC, xk_v, xk_n, xo_0_2, xo_6, xo_46, xw_64a_3 hW, xo_10_3i, xo_10_3r, xo_10_3n, xo_56, xo_70, xo_0_3, xo_21, xo_43, zk_C_letter_184, zk_C_letter_205, zk_C_letter_206, k2, hne, if_true, if_false, eq_self, Bool.true_eq_false, Bool.false_eq_true]
      rw [← k7' hc]
      rfl
  | k + 7, h => exact absurd h (by omega)
theorem k_sent_f (hC : z_HC G nb pb) (M : zM) {x w : Int32} (hx : (x < 0 ∨ ¬ x < nI 8) ∨ (w < 0 ∨ ¬ w < nI 2)) : z_call 121 [.ref 32, .int x, .int w] G M = some (.inr 1, z_thr G, rfc M 1) := by
  have hW := HC_W hC
  have r := k_ref1 hC M
  by_cases c1 : x < 0
  · simp (disch := first | assumption | omega | exact Nat.le_of_ble_eq_true rfl | decide) only [ze_C_sent, zk_C_sent_0, xo_2_0, xo_0_1, xo_50, xo_6, xo_45, xo_0_2, xo_48, xo_5, xo_43, xo_54, zk_C_sent_24, xo_55, zk_C_sent_25, xc_64_2 hC, xk_v, xk_n, xo_49, xc_17_5 hC, xw_17w_6 hW, xw_17a_4 hW, xw_17a_5 hW, xw_32_6 hW, xw_32_7 hW, xo_32, xo_70, c1, r, xk_x, if_true, if_false, eq_self, Bool.true_eq_false, Bool.false_eq_true]
  · by_cases c2 : x < nI 8
    · have hx' : w < 0 ∨ ¬ w < nI 2 := hx.elim (fun q => absurd q (fun q => q.elim c1 (fun q => q c2))) (fun q => q)
      have c3 : ¬ w = 0 := fun q => by subst q; rcases hx' with q | q; (· exact absurd q (by decide)); (· exact q (by decide))
      have c4 : ¬ w = nI 1 := fun q => by subst q; rcases hx' with q | q; (· exact absurd q (by decide)); (· exact q (by decide))
      simp (disch := first | assumption | omega | exact Nat.le_of_ble_eq_true rfl | decide) only [ze_C_sent, zk_C_sent_0, xo_2_0, xo_0_1, xo_50, zk_C_sent_5, xo_6, xo_45, zk_C_sent_11, xo_0_2, xo_48, zk_C_sent_15, xo_5, xo_43, xo_54, zk_C_sent_24, xo_55, zk_C_sent_25, xc_64_2 hC, xk_v, xk_n, xo_49, xc_17_5 hC, xw_17w_6 hW, xw_17a_4 hW, xw_17a_5 hW, xw_32_6 hW, xw_32_7 hW, xo_32, xo_70, c1, c2, c3, c4, r, xk_x, if_true, if_false, eq_self, Bool.true_eq_false, Bool.false_eq_true]
    · simp (disch := first | assumption | omega | exact Nat.le_of_ble_eq_true rfl | decide) only [ze_C_sent, zk_C_sent_0, xo_2_0, xo_0_1, xo_50, zk_C_sent_5, xo_6, xo_45, xo_0_2, xo_48, xo_5, xo_43, xo_54, zk_C_sent_24, xo_55, zk_C_sent_25, xc_64_2 hC, xk_v, xk_n, xo_49, xc_17_5 hC, xw_17w_6 hW, xw_17a_4 hW, xw_17a_5 hW, xw_32_6 hW, xw_32_7 hW, xo_32, xo_70, c1, c2, r, xk_x, if_true, if_false, eq_self, Bool.true_eq_false, Bool.false_eq_true]
theorem k_sent (hC : z_HC G nb pb) (M : zM) {V : zM} {s : Nat → Int32} (h : z_R true (0, 0) n B V s) {k w : Nat} (hk : k < 8) (hw : w < 2) : z_call 121 [.ref 32, .int (nI k), .int (nI w)] G (wr M nb V) = some (.inl (some (.int (s ((if w = 0 then 9 else 17) + k)))), G, wr M nb V) := by
  have hW := HC_W hC
  have r := k_need1 hC (wr M nb V)
  have c1 : ¬ nI k < 0 := nI_pos (by omega)
  have c2 : nI k < nI 8 := nI_lt hk (by omega)
  obtain ⟨_, _, _, _, _, v6, v7⟩ := h.1
  have v6 := v6 k hk
  have v7 := v7 k hk
  match w, hw with
  | 0, _ => simp (disch := first | assumption | omega | exact Nat.le_of_ble_eq_true rfl | decide) only [ze_C_sent, zk_C_sent_0, xo_2_0, xo_0_1, xo_50, zk_C_sent_5, xo_6, xo_45, zk_C_sent_11, xo_0_2, xo_48, xo_5, xo_43, zk_C_sent_20, xo_54, xo_55, zk_C_sent_25, xc_64_2 hC, xk_v, xk_n, xo_49, zk_C_sent_32, xc_17_5 hC, xw_17w_6 hW, xw_17a_4 hW, xw_17a_5 hW, xw_32_6 hW, xw_32_7 hW, xo_32, zk_C_sent_59, xo_70, c1, c2, r, v6, one0, zer0, if_true, if_false, eq_self, Bool.true_eq_false, Bool.false_eq_true]
  | 1, _ => simp (disch := first | assumption | omega | exact Nat.le_of_ble_eq_true rfl | decide) only [ze_C_sent, zk_C_sent_0, xo_2_0, xo_0_1, xo_50, zk_C_sent_5, xo_6, xo_45, zk_C_sent_11, xo_0_2, xo_48, zk_C_sent_15, xo_5, xo_43, zk_C_sent_20, xo_54, xo_55, zk_C_sent_25, xc_64_2 hC, xk_v, xk_n, xo_49, xc_17_5 hC, xw_17w_6 hW, xw_17a_4 hW, xw_17a_5 hW, xw_32_6 hW, xw_32_7 hW, xo_32, zk_C_sent_47, zk_C_sent_59, xo_70, c1, c2, r, v7, one0, zer0, Nat.one_ne_zero, if_true, if_false, eq_self, Bool.true_eq_false, Bool.false_eq_true]
  | k + 2, h => exact absurd h (by omega)
theorem k_tally_f0 (hC : z_HC G nb pb) (M : zM) {V : zM} {s : Nat → Int32} (h : z_R true (0, 0) n B V s) (hF : z_F n J B s) {x w : Int32} (hx : x < 0 ∨ ¬ x < nI n) : z_call 123 [.ref 32, .int x, .int w] G (wr M nb V) = some (.inr 0, z_thr G, rfc (wr M nb V) 0) := by
  have hW := HC_W hC
  have r := k_mem1 hC M V (x := x) (R_00 h hF) hx
  simp (disch := first | assumption | omega | exact Nat.le_of_ble_eq_true rfl | decide) only [ze_C_tally, zk_C_tally_0, xo_2_0, xo_0_1, xc_64_2 hC, xk_v, xk_n, xo_0_2, xo_50, xo_6, xo_45, xo_5, xo_54, xo_55, xc_17_5 hC, xw_17w_5 hW, xw_17b_14 hW, xw_34 hW, xw_32_t hW, xo_32, xo_70, r, xk_x, if_true, if_false, eq_self, Bool.true_eq_false, Bool.false_eq_true]
theorem k_tally_f1 (hC : z_HC G nb pb) (M : zM) {V : zM} {s : Nat → Int32} (h : z_R true (0, 0) n B V s) (hF : z_F n J B s) {i : Nat} {w : Int32} (hi : i < n) (hx : w < 0 ∨ ¬ w < nI 7) : z_call 123 [.ref 32, .int (nI i), .int w] G (wr M nb V) = some (.inr 1, z_thr G, rfc (wr M nb V) 1) := by
  have hW := HC_W hC
  have r0 := k_mem0 hC M V (R_00 h hF) hF.1.1.2 hi
  have r := k_ref1 hC (wr M nb V)
  by_cases c1 : w < 0
  · simp (disch := first | assumption | omega | exact Nat.le_of_ble_eq_true rfl | decide) only [ze_C_tally, zk_C_tally_0, xo_2_0, xo_0_1, xc_64_2 hC, xk_v, xk_n, xo_0_2, xo_50, xo_6, xo_45, xo_5, xo_54, zk_C_tally_20, xo_55, zk_C_tally_21, xc_17_5 hC, xw_17w_5 hW, xw_17b_14 hW, xw_34 hW, xw_32_t hW, xo_32, xo_70, r0, c1, r, xk_x, if_true, if_false, eq_self, Bool.true_eq_false, Bool.false_eq_true]
  · have c2 : ¬ w < nI 7 := hx.elim (fun q => absurd q c1) (fun q => q)
    simp (disch := first | assumption | omega | exact Nat.le_of_ble_eq_true rfl | decide) only [ze_C_tally, zk_C_tally_0, xo_2_0, xo_0_1, xc_64_2 hC, xk_v, xk_n, xo_0_2, xo_50, zk_C_tally_10, xo_6, xo_45, xo_5, xo_54, zk_C_tally_20, xo_55, zk_C_tally_21, xc_17_5 hC, xw_17w_5 hW, xw_17b_14 hW, xw_34 hW, xw_32_t hW, xo_32, xo_70, r0, c1, c2, r, xk_x, if_true, if_false, eq_self, Bool.true_eq_false, Bool.false_eq_true]
theorem k_tally (hC : z_HC G nb pb) (M : zM) {V : zM} {s : Nat → Int32} (h : z_R true (0, 0) n B V s) (hF : z_F n J B s) {i k : Nat} (hi : i < n) (hk : k < 7) : z_call 123 [.ref 32, .int (nI i), .int (nI k)] G (wr M nb V) = some (.inl (some (.int (s (41 + 28 * i + (21 + k))))), G, wr M nb V) := by
  have hW := HC_W hC
  have hn := hF.1.1.2
  have hi8 : i < 8 := by omega
  have r0 := k_mem0 hC M V (R_00 h hF) hF.1.1.2 hi
  have r := k_need1 hC (wr M nb V)
  have c1 : ¬ nI k < 0 := nI_pos (by omega)
  have c2 : nI k < nI 7 := nI_lt hk (by omega)
  have v := (h.2.2.2.1 rfl i hi).2.2 k hk
  simp (disch := first | assumption | omega | exact Nat.le_of_ble_eq_true rfl | decide) only [ze_C_tally, zk_C_tally_0, xo_2_0, xo_0_1, xc_64_2 hC, xk_v, xk_n, xo_0_2, xo_50, zk_C_tally_10, xo_6, xo_45, zk_C_tally_16, xo_5, xo_54, xo_55, zk_C_tally_21, xc_17_5 hC, xw_17w_5 hW, xw_17b_14 hW, xw_34 hW, xw_32_t hW, xo_32, xo_70, r0, c1, c2, r, v, if_true, if_false, eq_self, Bool.true_eq_false, Bool.false_eq_true]
theorem k_change_f0 (hC : z_HC G nb pb) (M : zM) {V : zM} {s : Nat → Int32} (h : z_R true (0, 0) n B V s) (hB : B < 2 ^ 30) {x w : Int32} {m : Nat} (h1 : s 4165 = nI m) (hx : x < 0 ∨ ¬ x < nI m) : z_call 125 [.ref 32, .int x, .int w] G (wr M nb V) = some (.inr 0, z_thr G, rfc (wr M nb V) 0) := by
  have hW := HC_W hC
  have r := k_ref0 hC (wr M nb V)
  have t := s_W_changesTold hW M h (by omega)
  by_cases c1 : x < 0
  · simp (disch := first | assumption | omega | exact Nat.le_of_ble_eq_true rfl | decide) only [ze_C_change, zk_C_change_0, xo_2_0, xo_0_1, xo_50, xc_17_5 hC, xw_64w_1 hW, xk_v, xk_n, xo_45, xo_5, xo_54, zk_C_change_20, xo_55, zk_C_change_21, xc_64_2 hC, xo_0_2, xw_64w_3 hW, xo_70, c1, r, xk_x, if_true, if_false, eq_self, Bool.true_eq_false, Bool.false_eq_true]
  · have c2 : ¬ x < nI m := hx.elim (fun q => absurd q c1) (fun q => q)
    simp (disch := first | assumption | omega | exact Nat.le_of_ble_eq_true rfl | decide) only [ze_C_change, zk_C_change_0, xo_2_0, xo_0_1, xo_50, zk_C_change_5, xc_17_5 hC, xw_64w_1 hW, xk_v, xk_n, xo_45, xo_5, xo_54, zk_C_change_20, xo_55, zk_C_change_21, xc_64_2 hC, xo_0_2, xw_64w_3 hW, xo_70, t, h1, c1, c2, r, xk_x, if_true, if_false, eq_self, Bool.true_eq_false, Bool.false_eq_true]
theorem k_change_f1 (hC : z_HC G nb pb) (M : zM) {V : zM} {s : Nat → Int32} (h : z_R true (0, 0) n B V s) (hB : B < 2 ^ 30) {k : Nat} {w : Int32} {m : Nat} (h1 : s 4165 = nI m) (hm : m ≤ 40) (hk : k < m) (hx : w < 0 ∨ ¬ w < nI 4) : z_call 125 [.ref 32, .int (nI k), .int w] G (wr M nb V) = some (.inr 1, z_thr G, rfc (wr M nb V) 1) := by
  have hW := HC_W hC
  have r0 := k_need0 hC (wr M nb V)
  have r := k_ref1 hC (wr M nb V)
  have t := s_W_changesTold hW M h (by omega)
  have d1 : ¬ nI k < 0 := nI_pos (by omega)
  have d2 : nI k < nI m := nI_lt hk (by omega)
  by_cases c1 : w < 0
  · simp (disch := first | assumption | omega | exact Nat.le_of_ble_eq_true rfl | decide) only [ze_C_change, zk_C_change_0, xo_2_0, xo_0_1, xo_50, zk_C_change_5, xc_17_5 hC, xw_64w_1 hW, xk_v, xk_n, xo_45, zk_C_change_16, xo_5, xo_54, xo_55, zk_C_change_21, xc_64_2 hC, xo_0_2, zk_C_change_38, zk_C_change_39, xw_64w_3 hW, xo_70, t, h1, d1, d2, r0, c1, r, xk_x, if_true, if_false, eq_self, Bool.true_eq_false, Bool.false_eq_true]
  · have c2 : ¬ w < nI 4 := hx.elim (fun q => absurd q c1) (fun q => q)
    simp (disch := first | assumption | omega | exact Nat.le_of_ble_eq_true rfl | decide) only [ze_C_change, zk_C_change_0, xo_2_0, xo_0_1, xo_50, zk_C_change_5, xc_17_5 hC, xw_64w_1 hW, xk_v, xk_n, xo_45, zk_C_change_16, xo_5, xo_54, xo_55, zk_C_change_21, xc_64_2 hC, xo_0_2, zk_C_change_29, zk_C_change_38, zk_C_change_39, xw_64w_3 hW, xo_70, t, h1, d1, d2, r0, c1, c2, r, xk_x, if_true, if_false, eq_self, Bool.true_eq_false, Bool.false_eq_true]
theorem k_change (hC : z_HC G nb pb) (M : zM) {V : zM} {s : Nat → Int32} (h : z_R true (0, 0) n B V s) (hB : B < 2 ^ 30) {k w : Nat} {m : Nat} (h1 : s 4165 = nI m) (hm : m ≤ 40) (hk : k < m) (hw : w < 4) : z_call 125 [.ref 32, .int (nI k), .int (nI w)] G (wr M nb V) = some (.inl (some (.int (s (4166 + 4 * k + w)))), G, wr M nb V) := by
  have hW := HC_W hC
  have r0 := k_need0 hC (wr M nb V)
  have r := k_need1 hC (wr M nb V)
  have t := s_W_changesTold hW M h (by omega)
  have t2 := s_W_changeField hW M h hB h1 hm hk hw
  have d1 : ¬ nI k < 0 := nI_pos (by omega)
  have d2 : nI k < nI m := nI_lt hk (by omega)
  have c1 : ¬ nI w < 0 := nI_pos (by omega)
  have c2 : nI w < nI 4 := nI_lt hw (by omega)
  simp (disch := first | assumption | omega | exact Nat.le_of_ble_eq_true rfl | decide) only [ze_C_change, zk_C_change_0, xo_2_0, xo_0_1, xo_50, zk_C_change_5, xc_17_5 hC, xw_64w_1 hW, xk_v, xk_n, xo_45, zk_C_change_16, xo_5, xo_54, xo_55, zk_C_change_21, xc_64_2 hC, xo_0_2, zk_C_change_29, zk_C_change_34, zk_C_change_39, xw_64w_3 hW, xo_70, t, h1, d1, d2, r0, c1, c2, r, t2, if_true, if_false, eq_self, Bool.true_eq_false, Bool.false_eq_true]
theorem k_ranked_f (hC : z_HC G nb pb) (M : zM) {V : zM} {s : Nat → Int32} (h : z_R true (0, 0) n B V s) (hF : z_F n J B s) {x w : Int32} (hx : x < 0 ∨ ¬ x < nI n) : z_call 128 [.ref 32, .int x, .int w] G (wr M nb V) = some (.inr 0, z_thr G, rfc (wr M nb V) 0) := by
  have hW := HC_W hC
  have r := k_mem1 hC M V (x := x) (R_00 h hF) hx
  simp (disch := first | assumption | omega | exact Nat.le_of_ble_eq_true rfl | decide) only [ze_C_ranked, zk_C_ranked_0, xo_2_0, xo_0_1, xc_64_2 hC, xk_v, xk_n, xc_17_5 hC, xo_63_2, xo_0_2, xo_63_3, xo_70, r, xk_x, if_true, if_false, eq_self, Bool.true_eq_false, Bool.false_eq_true]
theorem k_ranked (hC : z_HC G nb pb) (M : zM) {V : zM} {s : Nat → Int32} (h : z_R true (0, 0) n B V s) (hF : z_F n J B s) {i : Nat} {w : Int32} (hi : i < n) : z_call 128 [.ref 32, .int (nI i), .int w] G (wr M nb V) = some (.inl (some (.int (f_rk n s (f_ci n s i) w))), G, wr M nb V) := by
  have hW := HC_W hC
  have r0 := k_mem0 hC M V (R_00 h hF) hF.1.1.2 hi
  have t1 := s_S_circleOf hW M h hF hi
  have t2 := s_S_atPlace hW M h hF (f_ci_t hF hi).1 w
  simp (disch := first | assumption | omega | exact Nat.le_of_ble_eq_true rfl | decide) only [ze_C_ranked, zk_C_ranked_0, xo_2_0, xo_0_1, xc_64_2 hC, xk_v, xk_n, xc_17_5 hC, xo_63_2, xo_0_2, xo_63_3, xo_70, r0, t1, t2, if_true, if_false, eq_self, Bool.true_eq_false, Bool.false_eq_true]
theorem k_status (hC : z_HC G nb pb) (M : zM) (x : Int32) : z_call 57 [.ref 32, .int x] G M = some (.inl (some (.int (if x < 0 ∨ ¬ x < nI 3 then nI 4294967295 else M 34 (z_n x)))), G, M) := by
  have hW := HC_W hC
  obtain ⟨_, _, _, ⟨q1, q2⟩, _⟩ := id hC
  rcases rg_1 x 3 (by omega) with ⟨i, hi, e⟩ | hx
  · subst e
    have c1 : ¬ nI i < 0 := nI_pos (by omega)
    have c2 : nI i < nI 3 := nI_lt hi (by omega)
    have hc : ¬ (nI i < 0 ∨ ¬ nI i < nI 3) := fun q => q.elim c1 (fun q => q c2)
    rw [if_neg hc, z_nN (by omega)]
    simp (disch := first | assumption | omega | exact Nat.le_of_ble_eq_true rfl | decide) only [ze_C_status, zk_C_status_0, xo_0_1, xo_50, zk_C_status_4, xo_2_0, xc_17_3 hC, xo_36, xo_45, zk_C_status_13, xo_32, xo_54, xo_5, xo_55, zk_C_status_23, xo_70, q2, c1, c2, if_true, if_false, eq_self, Bool.true_eq_false, Bool.false_eq_true]
  · rw [if_pos hx]
    by_cases c1 : x < 0
    · simp (disch := first | assumption | omega | exact Nat.le_of_ble_eq_true rfl | decide) only [ze_C_status, zk_C_status_0, xo_0_1, xo_50, xo_2_0, xc_17_3 hC, xo_36, xo_45, xo_32, xo_54, zk_C_status_22, xo_5, xo_55, zk_C_status_23, xo_70, c1, if_true, if_false, eq_self, Bool.true_eq_false, Bool.false_eq_true]
    · have c2 : ¬ x < nI 3 := hx.elim (fun q => absurd q c1) (fun q => q)
      simp (disch := first | assumption | omega | exact Nat.le_of_ble_eq_true rfl | decide) only [ze_C_status, zk_C_status_0, xo_0_1, xo_50, zk_C_status_4, xo_2_0, xc_17_3 hC, xo_36, xo_45, xo_32, xo_54, zk_C_status_22, xo_5, xo_55, zk_C_status_23, xo_70, q2, c1, c2, if_true, if_false, eq_self, Bool.true_eq_false, Bool.false_eq_true]
theorem k_fault (hC : z_HC G nb pb) (M : zM) : z_call 22 [.ref 32] G M = some (.inl (some (.int (M 32 2))), G, M) := by
  simp (disch := first | assumption | omega | exact Nat.le_of_ble_eq_true rfl | decide) only [ze_C_fault, zk_C_fault_0, xo_2_0, xc_16 hC, xo_70, if_true, if_false, eq_self, Bool.true_eq_false, Bool.false_eq_true]
theorem k_chiefs (hC : z_HC G nb pb) (M : zM) {V : zM} {s : Nat → Int32} (h : z_R true (0, 0) n B V s) (hF : z_F n J B s) : z_call 29 [.ref 32] G (wr M nb V) = some (.inl (some (.int (nI (f_ld n s)))), G, wr M nb V) := by
  have hW := HC_W hC
  have t := s_S_leaders hW M h hF
  simp (disch := first | assumption | omega | exact Nat.le_of_ble_eq_true rfl | decide) only [ze_C_chiefs, zk_C_chiefs_0, xo_2_0, xc_17_5 hC, xo_63_1, xk_v, xk_n, xo_70, t, if_true, if_false, eq_self, Bool.true_eq_false, Bool.false_eq_true]
/-! ===== print: in both ===== -/
def f_pr (s : Nat → Int32) (i : Nat) (v : Int64) : Int64 := Int64.ofNat 31 * (Int64.ofNat 31 * (Int64.ofNat 31 * v + (s (41 + 28 * i + 3)).toInt64) + (s (41 + 28 * i + 4)).toInt64) + (s (41 + 28 * i + 6)).toInt64
def q_pr (n : Nat) (s : Nat → Int32) : Int64 := z_fd (f_pr s) n 0 (Int64.ofNat 0)
theorem k_print (hC : z_HC G nb pb) (M : zM) {V : zM} {s : Nat → Int32} (h : z_R true (0, 0) n B V s) (hF : z_F n J B s) : z_call 56 [.ref 32] G (wr M nb V) = some (.inl (some (.long (q_pr n s))), G, wr M nb V) := by
  have hW := HC_W hC
  have hn := hF.1.1.2
  have h0 := R_00 h hF
  have e0 : z_call 56 [.ref 32] G (wr M nb V) = z_ex 56 (z_blk 56 4) [.ref 32, .long (Int64.ofNat 0), .null, .int (nI 0), .null] [] G (wr M nb V) := by
    simp (disch := first | assumption | omega | exact Nat.le_of_ble_eq_true rfl | decide) only [ze_C_print, zk_C_print_0, xo_62, xo_14_1r, xo_5, xo_10_3i, xo_10_3r, xo_10_3n, xo_55, xo_0_3, xo_2_0, xc_17_5 hC, xw_17w_5 hW, xw_16w hW, xw_16b hW, xo_45, xw_34 hW, xo_13_4i, xo_13_4r, xo_13_4n, xo_61, xo_4_1, xo_59, xo_3_4, xo_57, xo_58, xo_15_3i, xo_15_3r, xo_15_3n, xo_54, xo_71, if_true, if_false, eq_self, Bool.true_eq_false, Bool.false_eq_true]
  have e : ∀ r k v w, k + r = n → z_ex 56 (z_blk 56 4) [.ref 32, .long v, .null, .int (nI k), w] [] G (wr M nb V) = some (.inl (some (.long (z_fd (f_pr s) r k v))), G, wr M nb V) := by
    intro r
    induction r with
    | zero =>
      intro k v w hk
      have hlt : ¬ nI k < nI n := nI_nlt (by omega) (by omega)
      rw [z_fd_0]
      conv => lhs; rw [zk_C_print_4]
      simp (disch := first | assumption | omega | exact Nat.le_of_ble_eq_true rfl | decide) only [xo_62, xo_14_1r, xo_5, xo_10_3i, xo_10_3r, xo_10_3n, xo_55, xo_0_3, xo_2_0, xc_17_5 hC, xw_17w_5 hW, xw_16w hW, xw_16b hW, xo_45, xw_34 hW, xo_13_4i, xo_13_4r, xo_13_4n, xo_61, xo_4_1, xo_59, xo_3_4, xo_57, xo_58, xo_15_3i, xo_15_3r, xo_15_3n, xo_54, zk_C_print_71, xo_71, h0, hlt, if_true, if_false, eq_self, Bool.true_eq_false, Bool.false_eq_true]
    | succ r ih =>
      intro k v w hk
      have hlt : nI k < nI n := nI_lt (by omega) (by omega)
      have hk8 : k < 8 := by omega
      have r6 := rd_6 h (i := k) (by omega)
      have r7 := rd_7 h (i := k) (by omega)
      have r10 := rd_10 h (i := k) (by omega)
      rw [z_fd_s, ← ih (k + 1) (f_pr s k v) (.ref (nb + (9 + 4 * k))) (by omega)]
      conv => lhs; rw [zk_C_print_4]
      simp (disch := first | assumption | omega | exact Nat.le_of_ble_eq_true rfl | decide) only [xo_62, xo_14_1r, xo_5, xo_10_3i, xo_10_3r, xo_10_3n, xo_55, xo_0_3, xo_2_0, xc_17_5 hC, xw_17w_5 hW, xw_16w hW, xw_16b hW, xo_45, zk_C_print_15, xw_34 hW, xo_13_4i, xo_13_4r, xo_13_4n, xo_61, xo_4_1, xo_59, xo_3_4, xo_57, xo_58, xo_15_3i, xo_15_3r, xo_15_3n, xo_54, xo_71, nI_add, pk_mul, Nat.add_zero, h0, hlt, r6, r7, r10, if_true, if_false, eq_self, Bool.true_eq_false, Bool.false_eq_true]
      rfl
  rw [e0]
  exact e n 0 _ _ (by omega)
theorem m_print (hM : z_HM G) (M : zM) (hF : z_F n J B (M 458)) : z_call 246 [.ref 455] G M = some (.inl (some (.long (q_pr n (M 458)))), G, th0 M) := by
  have e8 : th0 M 458 = M 458 := th0_o M (by omega)
  have hn := hF.1.1.2
  have h0 := hF.1.1.1
  obtain ⟨k0, ⟨r1, r8, r9, r10, r11, r12, r13, r17⟩, ⟨q1, q2⟩, ⟨q3, q4⟩, ⟨q5, q6⟩, ⟨q7, q8⟩, ⟨q9, q10⟩, ⟨q11, q12⟩, ⟨q13, q14⟩, ⟨q15, q16⟩, hp⟩ := id hM; have kr : ∀ a, z_rc a = 7 → z_kd G 455 = (0, z_rc a) := fun a h => (by rw [h]; exact k0)
  have e0 : z_call 246 [.ref 455] G M = z_ex 246 (z_blk 246 9) [.ref 455, .long (Int64.ofNat 0), .null, .int (nI 0)] [] G (th0 M) := by
    simp (disch := first | assumption | exact kr _ rfl | omega | exact Nat.le_of_ble_eq_true rfl) only [ze_M_print, zk_M_print_0, xo_2_0, xo_5, xo_18, xo_62, xo_14_1r, xo_10_3i, xo_10_3r, xo_10_3n, xo_55, xo_0_3, xo_17, xo_32, xo_45, xo_61, xo_4_1, xo_59, xo_63_2, xk_v, xk_n, xo_57, xo_58, xo_6, xo_15_3i, xo_15_3r, xo_15_3n, xo_54, xo_71, th0_f, if_true, if_false, eq_self, Bool.true_eq_false, Bool.false_eq_true, and_true, true_and, and_false, false_and, or_true, true_or, or_false, false_or, ne_eq, not_true_eq_false, not_false_eq_true, decide_true, decide_false, z_sA_id]
  have e : ∀ r k v, k + r = n → z_ex 246 (z_blk 246 9) [.ref 455, .long v, .null, .int (nI k)] [] G (th0 M) = some (.inl (some (.long (z_fd (f_pr (M 458)) r k v))), G, th0 M) := by
    intro r
    induction r with
    | zero =>
      intro k v hk
      have hlt : ¬ nI k < nI n := nI_nlt (by omega) (by omega)
      rw [z_fd_0]
      conv => lhs; rw [zk_M_print_9]
      simp (disch := first | assumption | exact kr _ rfl | omega | exact Nat.le_of_ble_eq_true rfl) only [xo_2_0, xo_5, xo_18, xo_62, xo_14_1r, xo_10_3i, xo_10_3r, xo_10_3n, xo_55, xo_0_3, xo_17, xo_32, xo_45, xo_61, xo_4_1, xo_59, xo_63_2, xk_v, xk_n, xo_57, xo_58, xo_6, xo_15_3i, xo_15_3r, xo_15_3n, xo_54, zk_M_print_76, xo_71, e8, r9, h0, hlt, if_true, if_false, eq_self, Bool.true_eq_false, Bool.false_eq_true, and_true, true_and, and_false, false_and, or_true, true_or, or_false, false_or, ne_eq, not_true_eq_false, not_false_eq_true, decide_true, decide_false, z_sA_id]
    | succ r ih =>
      intro k v hk
      have hlt : nI k < nI n := nI_lt (by omega) (by omega)
      rw [z_fd_s, ← ih (k + 1) (f_pr (M 458) k v) (by omega)]
      conv => lhs; rw [zk_M_print_9]
      simp (disch := first | assumption | exact kr _ rfl | omega | exact Nat.le_of_ble_eq_true rfl) only [xo_2_0, xo_5, xo_18, xo_62, xo_14_1r, xo_10_3i, xo_10_3r, xo_10_3n, xo_55, xo_0_3, xo_17, xo_32, xo_45, zk_M_print_19, xo_61, xo_4_1, xo_59, xo_63_2, xk_v, xk_n, xo_57, xo_58, xo_6, xo_15_3i, xo_15_3r, xo_15_3n, xo_54, xo_71, nI_add, pk_mul, Nat.add_zero, z_sA_s, z_sA_sA, z_u_s, e8, r9, h0, hlt, c_M_m, if_true, if_false, eq_self, Bool.true_eq_false, Bool.false_eq_true, and_true, true_and, and_false, false_and, or_true, true_or, or_false, false_or, ne_eq, not_true_eq_false, not_false_eq_true, decide_true, decide_false, z_sA_id]
      rfl
  rw [e0]
  exact e n 0 _ (by omega)
end
