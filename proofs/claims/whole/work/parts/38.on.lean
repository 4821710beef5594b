/-! ===== a letter is handled, in both ===== -/
section
variable {G : zG} {b : Nat} (hW : z_HW G b) (M : zM) {fl : Bool} {kp : Nat × Nat} {n J B Bf : Nat} {V : zM} {s : Nat → Int32} (h : z_R fl kp n B V s) (hF : z_F n J Bf s) {i j : Nat} (hi : i < n) (hj : j < n)
theorem z_R_s {t : Nat → Int32} (h : z_R fl kp n B V s) (e : s = t) : z_R fl kp n B V t := e ▸ h
theorem leadsN (hR : z_R fl kp n B V s) (hi : i < n) : (decide (V (9 + 4 * i) 3 = 0) && decide (V (9 + 4 * i) 4 = V (9 + 4 * i) 0)) = decide (s (41 + 28 * i) = 0 ∧ s (41 + 28 * i + 1) = nI i) := by
  rw [rd_3 hR hi, rd_4 hR hi, rd_0 hR hi]
  by_cases h1 : s (41 + 28 * i) = 0 <;> by_cases h2 : s (41 + 28 * i + 1) = nI i <;> simp [h1, h2]
theorem s_W_onAsk (hW : z_HW G b) (M : zM) (h : z_R fl kp n B V s) (hF : z_F n J Bf s) (hi : i < n) (hj : j < n) (g : Int32) : ∃ V', z_call 38 [.ref b, .ref (b + (9 + 4 * i)), .int (nI j), .int g] G (wr M b V) = some (.inl none, G, wr M b V') ∧ z_R fl kp n B V' (f_h0 i j g s) := by
  have hn : n ≤ 8 := hF.1.1.2
  have hi8 : i < 8 := by omega
  obtain ⟨sz, z1, z2⟩ := z_R_sz h
  have hld := c_B_leads hW M V hi8
  rw [leadsN h hi] at hld
  unfold f_h0
  by_cases hc : s (41 + 28 * i) = 0 ∧ s (41 + 28 * i + 1) = nI i
  · rw [if_pos hc]
    have hs := c_W_send hW M V (i := i) (to := j) (k := 1) hi8 (by omega) z1 z2 (nI 4294967295) (nI 4294967295)
    refine ⟨_, ?_, R_sd h hF hi (by omega) (nI 4294967295) (nI 4294967295) _ _ (by omega) (by omega)⟩
    simp (disch := first | assumption | omega | exact Nat.le_of_ble_eq_true rfl | decide) only [ze_W_onAsk, zk_W_onAsk_0, xo_2_1, xw_64b_1 hW, xk_v, xk_n, xo_48, zk_W_onAsk_7, xo_2_0, xo_0_2, xo_5, xw_64w_6 hW, xo_54, xw_16b hW, xo_49, xo_43, xo_0_3, xo_55, zk_W_onAsk_51, xo_69, hld, hc, z_b0, if_true, if_false, eq_self, Bool.true_eq_false, Bool.false_eq_true, and_true, true_and, and_false, false_and, or_true, true_or, or_false, false_or, ne_eq, not_true_eq_false, not_false_eq_true, decide_true, decide_false, z_sA_id, hs]
  · rw [if_neg hc]
    have r3 := rd_3 h hi
    have r4 := rd_4 h hi
    have r6 := rd_6 h hi
    have hld' : z_call 31 [.ref (b + (9 + 4 * i))] G (wr M b V) = some (.inl (some (.int (z_b false))), G, wr M b V) := by rw [hld, decide_eq_false hc]
    by_cases hN : s (41 + 28 * i) = 0
    · by_cases hJ : s (41 + 28 * i + 1) = nI j
      · by_cases hG : s (41 + 28 * i + 3) = g
        · rw [if_pos ⟨hN, hJ, hG⟩]
          have hs := c_W_send hW M V (i := i) (to := j) (k := 3) hi8 (by omega) z1 z2 g (nI 4294967295)
          refine ⟨_, ?_, R_sd h hF hi (by omega) g (nI 4294967295) _ _ (by omega) (by omega)⟩
          simp (disch := first | assumption | omega | exact Nat.le_of_ble_eq_true rfl | decide) only [ze_W_onAsk, zk_W_onAsk_0, xo_2_1, xw_64b_1 hW, xk_v, xk_n, xo_48, xo_2_0, xo_0_2, xo_5, xw_64w_6 hW, xo_54, zk_W_onAsk_19, xw_16b hW, xo_49, zk_W_onAsk_26, xo_43, zk_W_onAsk_34, xo_0_3, zk_W_onAsk_42, xo_55, zk_W_onAsk_51, xo_69, hld', z_b0, r3, r4, r6, hN, hJ, hG, if_true, if_false, eq_self, Bool.true_eq_false, Bool.false_eq_true, and_true, true_and, and_false, false_and, or_true, true_or, or_false, false_or, ne_eq, not_true_eq_false, not_false_eq_true, decide_true, decide_false, z_sA_id, hs]
        · rw [if_neg (fun q => hG q.2.2)]
          refine ⟨V, ?_, h⟩
          simp (disch := first | assumption | omega | exact Nat.le_of_ble_eq_true rfl | decide) only [ze_W_onAsk, zk_W_onAsk_0, xo_2_1, xw_64b_1 hW, xk_v, xk_n, xo_48, xo_2_0, xo_0_2, xo_5, xw_64w_6 hW, xo_54, zk_W_onAsk_19, xw_16b hW, xo_49, zk_W_onAsk_26, xo_43, zk_W_onAsk_34, xo_0_3, xo_55, zk_W_onAsk_51, xo_69, hld', z_b0, r3, r4, r6, hN, hJ, hG, if_true, if_false, eq_self, Bool.true_eq_false, Bool.false_eq_true, and_true, true_and, and_false, false_and, or_true, true_or, or_false, false_or, ne_eq, not_true_eq_false, not_false_eq_true, decide_true, decide_false, z_sA_id]
      · rw [if_neg (fun q => hJ q.2.1)]
        refine ⟨V, ?_, h⟩
        simp (disch := first | assumption | omega | exact Nat.le_of_ble_eq_true rfl | decide) only [ze_W_onAsk, zk_W_onAsk_0, xo_2_1, xw_64b_1 hW, xk_v, xk_n, xo_48, xo_2_0, xo_0_2, xo_5, xw_64w_6 hW, xo_54, zk_W_onAsk_19, xw_16b hW, xo_49, zk_W_onAsk_26, xo_43, xo_0_3, xo_55, zk_W_onAsk_51, xo_69, hld', z_b0, r3, r4, hN, hJ, if_true, if_false, eq_self, Bool.true_eq_false, Bool.false_eq_true, and_true, true_and, and_false, false_and, or_true, true_or, or_false, false_or, ne_eq, not_true_eq_false, not_false_eq_true, decide_true, decide_false, z_sA_id]
    · rw [if_neg (fun q => hN q.1)]
      refine ⟨V, ?_, h⟩
      simp (disch := first | assumption | omega | exact Nat.le_of_ble_eq_true rfl | decide) only [ze_W_onAsk, zk_W_onAsk_0, xo_2_1, xw_64b_1 hW, xk_v, xk_n, xo_48, xo_2_0, xo_0_2, xo_5, xw_64w_6 hW, xo_54, zk_W_onAsk_19, xw_16b hW, xo_49, xo_43, xo_0_3, xo_55, zk_W_onAsk_51, xo_69, hld', z_b0, r3, hN, if_true, if_false, eq_self, Bool.true_eq_false, Bool.false_eq_true, and_true, true_and, and_false, false_and, or_true, true_or, or_false, false_or, ne_eq, not_true_eq_false, not_false_eq_true, decide_true, decide_false, z_sA_id]
theorem s_W_onThere (hW : z_HW G b) (M : zM) (h : z_R fl kp n B V s) (hF : z_F n J Bf s) (hi : i < n) (hj : j < n) (g : Int32) : ∃ V', z_call 41 [.ref b, .ref (b + (9 + 4 * i)), .int (nI j), .int g] G (wr M b V) = some (.inl none, G, wr M b V') ∧ z_R fl kp n B V' (f_h2 i j g s) := by
  have hn : n ≤ 8 := hF.1.1.2
  have hi8 : i < 8 := by omega
  obtain ⟨sz, z1, z2⟩ := z_R_sz h
  have hld := c_B_leads hW M V hi8
  rw [leadsN h hi] at hld
  have r6 := rd_6 h hi
  have r7 := rd_7 h hi
  obtain ⟨u, u1, u2, u3⟩ := F_4 hF hi
  rw [u3] at r7
  unfold f_h2
  rw [u3, z_hasN u u1 j (by omega)]
  have hs4 := c_W_send hW M V (i := i) (to := j) (k := 4) hi8 (by omega) z1 z2 (nI 4294967295) (nI 4294967295)
  have hs3 := c_W_send hW M V (i := i) (to := j) (k := 3) hi8 (by omega) z1 z2 g (nI 4294967295)
  by_cases hc : s (41 + 28 * i) = 0 ∧ s (41 + 28 * i + 1) = nI i
  · by_cases hG : s (41 + 28 * i + 3) = g
    · cases hb : u.testBit j
      · have e2 : nI u &&& (nI 1 <<< (nI j &&& 31)) = 0 := (z_andN u u1 j (by omega)).mpr hb
        rw [if_neg (fun q => Bool.false_ne_true q.2.2.2)]
        refine ⟨_, ?_, R_sd h hF hi (by omega) (nI 4294967295) (nI 4294967295) _ _ (by omega) (by omega)⟩
        simp (disch := first | assumption | omega | exact Nat.le_of_ble_eq_true rfl | decide) only [ze_W_onThere, zk_W_onThere_0, xo_2_1, xw_64b_1 hW, xk_v, xk_n, xo_48, zk_W_onThere_7, xw_16b hW, xo_0_3, xo_43, zk_W_onThere_15, xo_5, xo_0_2, xo_26, xo_23, xo_2_0, xw_64w_6 hW, xo_54, zk_W_onThere_38, xo_55, zk_W_onThere_47, xo_69, hld, hc, z_b0, r6, r7, hG, e2, if_true, if_false, eq_self, Bool.true_eq_false, Bool.false_eq_true, and_true, true_and, and_false, false_and, or_true, true_or, or_false, false_or, ne_eq, not_true_eq_false, not_false_eq_true, decide_true, decide_false, z_sA_id, hs4]
      · have e2 : ¬ nI u &&& (nI 1 <<< (nI j &&& 31)) = 0 := fun q => by
          have := (z_andN u u1 j (by omega)).mp q
          rw [hb] at this; exact Bool.false_ne_true this.symm
        rw [if_pos ⟨hc.1, hc.2, hG, rfl⟩]
        refine ⟨_, ?_, R_sd h hF hi (by omega) g (nI 4294967295) _ _ (by omega) (by omega)⟩
        simp (disch := first | assumption | omega | exact Nat.le_of_ble_eq_true rfl | decide) only [ze_W_onThere, zk_W_onThere_0, xo_2_1, xw_64b_1 hW, xk_v, xk_n, xo_48, zk_W_onThere_7, xw_16b hW, xo_0_3, xo_43, zk_W_onThere_15, xo_5, xo_0_2, xo_26, xo_23, zk_W_onThere_26, xo_2_0, xw_64w_6 hW, xo_54, xo_55, zk_W_onThere_47, xo_69, hld, hc, z_b0, r6, r7, hG, e2, if_true, if_false, eq_self, Bool.true_eq_false, Bool.false_eq_true, and_true, true_and, and_false, false_and, or_true, true_or, or_false, false_or, ne_eq, not_true_eq_false, not_false_eq_true, decide_true, decide_false, z_sA_id, hs3]
    · rw [if_neg (fun q => hG q.2.2.1)]
      refine ⟨_, ?_, R_sd h hF hi (by omega) (nI 4294967295) (nI 4294967295) _ _ (by omega) (by omega)⟩
      simp (disch := first | assumption | omega | exact Nat.le_of_ble_eq_true rfl | decide) only [ze_W_onThere, zk_W_onThere_0, xo_2_1, xw_64b_1 hW, xk_v, xk_n, xo_48, zk_W_onThere_7, xw_16b hW, xo_0_3, xo_43, xo_5, xo_0_2, xo_26, xo_23, xo_2_0, xw_64w_6 hW, xo_54, zk_W_onThere_38, xo_55, zk_W_onThere_47, xo_69, hld, hc, z_b0, r6, hG, if_true, if_false, eq_self, Bool.true_eq_false, Bool.false_eq_true, and_true, true_and, and_false, false_and, or_true, true_or, or_false, false_or, ne_eq, not_true_eq_false, not_false_eq_true, decide_true, decide_false, z_sA_id, hs4]
  · rw [if_neg (fun q => hc ⟨q.1, q.2.1⟩)]
    have hld' : z_call 31 [.ref (b + (9 + 4 * i))] G (wr M b V) = some (.inl (some (.int (z_b false))), G, wr M b V) := by rw [hld, decide_eq_false hc]
    refine ⟨_, ?_, R_sd h hF hi (by omega) (nI 4294967295) (nI 4294967295) _ _ (by omega) (by omega)⟩
    simp (disch := first | assumption | omega | exact Nat.le_of_ble_eq_true rfl | decide) only [ze_W_onThere, zk_W_onThere_0, xo_2_1, xw_64b_1 hW, xk_v, xk_n, xo_48, xw_16b hW, xo_0_3, xo_43, xo_5, xo_0_2, xo_26, xo_23, xo_2_0, xw_64w_6 hW, xo_54, zk_W_onThere_38, xo_55, zk_W_onThere_47, xo_69, hld', z_b0, if_true, if_false, eq_self, Bool.true_eq_false, Bool.false_eq_true, and_true, true_and, and_false, false_and, or_true, true_or, or_false, false_or, ne_eq, not_true_eq_false, not_false_eq_true, decide_true, decide_false, z_sA_id, hs4]
theorem s_W_onYes (hW : z_HW G b) (M : zM) (h : z_R fl kp n B V s) (hF : z_F n J Bf s) (hi : i < n) (hj : j < n) (g : Int32) : ∃ V', z_call 42 [.ref b, .ref (b + (9 + 4 * i)), .int (nI j), .int g] G (wr M b V) = some (.inl none, G, wr M b V') ∧ z_R fl kp n B V' (f_h3 i j g s) := by
  have hn : n ≤ 8 := hF.1.1.2
  have hi8 : i < 8 := by omega
  have r4 := rd_4 h hi
  have r6 := rd_6 h hi
  have r9 := rd_9 h hi
  have r10 := rd_10 h hi
  have h52 : (nI 5 = nI 2) = False := eq_false (by decide)
  have h25 : (nI 2 = nI 5) = False := eq_false (by decide)
  have haw := c_W_await hW M V hi8 (nI 1) (V 1 0)
  have e10 : V 1 0 = s 2 := h.1.2.2.2.1 0 (by omega)
  unfold f_h3
  by_cases hG : s (41 + 28 * i + 3) = g
  · by_cases hp : s (41 + 28 * i + 6) = nI 5
    · by_cases hJ : s (41 + 28 * i + 1) = nI j
      · rw [if_pos ⟨hp, hJ, hG⟩]
        refine ⟨g_aw i (nI 1) (V 1 0) V, ?_, by rw [e10]; exact R_aw h hn hi _ _⟩
        simp (disch := first | assumption | omega | exact Nat.le_of_ble_eq_true rfl | decide) only [ze_W_onYes, zk_W_onYes_0, xo_2_1, xw_16b hW, xo_0_3, xo_42, xo_69, zk_W_onYes_9, xo_5, xo_43, zk_W_onYes_17, xo_0_2, zk_W_onYes_25, xo_2_0, xw_17w_3 hW, xw_32_1 hW, xw_64w_4 hW, xk_v, xk_n, xo_54, xo_39i, xo_39r, xo_26, xo_24, xw_18b hW, xo_55, zk_W_onYes_60, r4, r6, r10, hG, hp, hJ, if_true, if_false, eq_self, Bool.true_eq_false, Bool.false_eq_true, and_true, true_and, and_false, false_and, or_true, true_or, or_false, false_or, ne_eq, not_true_eq_false, not_false_eq_true, decide_true, decide_false, z_sA_id, haw]
      · rw [if_neg (fun q => hJ q.2.1), if_neg (fun q => by rw [hp] at q; exact absurd q.1 (by decide))]
        refine ⟨V, ?_, h⟩
        simp (disch := first | assumption | omega | exact Nat.le_of_ble_eq_true rfl | decide) only [ze_W_onYes, zk_W_onYes_0, xo_2_1, xw_16b hW, xo_0_3, xo_42, xo_69, zk_W_onYes_9, xo_5, xo_43, zk_W_onYes_17, xo_0_2, xo_2_0, xw_17w_3 hW, xw_32_1 hW, xw_64w_4 hW, xk_v, xk_n, xo_54, zk_W_onYes_40, xo_39i, xo_39r, xo_26, xo_24, xw_18b hW, xo_55, zk_W_onYes_60, r4, r6, r10, hG, hp, hJ, h52, if_true, if_false, eq_self, Bool.true_eq_false, Bool.false_eq_true, and_true, true_and, and_false, false_and, or_true, true_or, or_false, false_or, ne_eq, not_true_eq_false, not_false_eq_true, decide_true, decide_false, z_sA_id]
    · rw [if_neg (fun q => hp q.1)]
      by_cases hp2 : s (41 + 28 * i + 6) = nI 2
      · rw [if_pos ⟨hp2, hG⟩]
        refine ⟨z_w V (9 + 4 * i) 9 (V (9 + 4 * i) 9 ||| (nI 1 <<< (nI j &&& 31))), ?_, by rw [r9]; exact Rm9 h hn hi _⟩
        simp (disch := first | assumption | omega | exact Nat.le_of_ble_eq_true rfl | decide) only [ze_W_onYes, zk_W_onYes_0, xo_2_1, xw_16b hW, xo_0_3, xo_42, xo_69, zk_W_onYes_9, xo_5, xo_43, xo_0_2, xo_2_0, xw_17w_3 hW, xw_32_1 hW, xw_64w_4 hW, xk_v, xk_n, xo_54, zk_W_onYes_40, zk_W_onYes_48, xo_39i, xo_39r, xo_26, xo_24, xw_18b hW, xo_55, zk_W_onYes_60, r6, r10, hG, hp2, h25, if_true, if_false, eq_self, Bool.true_eq_false, Bool.false_eq_true, and_true, true_and, and_false, false_and, or_true, true_or, or_false, false_or, ne_eq, not_true_eq_false, not_false_eq_true, decide_true, decide_false, z_sA_id]
      · rw [if_neg (fun q => hp2 q.1)]
        refine ⟨V, ?_, h⟩
        simp (disch := first | assumption | omega | exact Nat.le_of_ble_eq_true rfl | decide) only [ze_W_onYes, zk_W_onYes_0, xo_2_1, xw_16b hW, xo_0_3, xo_42, xo_69, zk_W_onYes_9, xo_5, xo_43, xo_0_2, xo_2_0, xw_17w_3 hW, xw_32_1 hW, xw_64w_4 hW, xk_v, xk_n, xo_54, zk_W_onYes_40, xo_39i, xo_39r, xo_26, xo_24, xw_18b hW, xo_55, zk_W_onYes_60, r6, r10, hG, hp, hp2, if_true, if_false, eq_self, Bool.true_eq_false, Bool.false_eq_true, and_true, true_and, and_false, false_and, or_true, true_or, or_false, false_or, ne_eq, not_true_eq_false, not_false_eq_true, decide_true, decide_false, z_sA_id]
  · rw [if_neg (fun q => hG q.2.2), if_neg (fun q => hG q.2)]
    refine ⟨V, ?_, h⟩
    simp (disch := first | assumption | omega | exact Nat.le_of_ble_eq_true rfl | decide) only [ze_W_onYes, zk_W_onYes_0, xo_2_1, xw_16b hW, xo_0_3, xo_42, zk_W_onYes_8, xo_69, xo_5, xo_43, xo_0_2, xo_2_0, xw_17w_3 hW, xw_32_1 hW, xw_64w_4 hW, xk_v, xk_n, xo_54, xo_39i, xo_39r, xo_26, xo_24, xw_18b hW, xo_55, r6, hG, if_true, if_false, eq_self, Bool.true_eq_false, Bool.false_eq_true, and_true, true_and, and_false, false_and, or_true, true_or, or_false, false_or, ne_eq, not_true_eq_false, not_false_eq_true, decide_true, decide_false, z_sA_id]
theorem s_W_onReady (hW : z_HW G b) (M : zM) (h : z_R fl kp n B V s) (hF : z_F n J Bf s) (hi : i < n) {k : Nat} (hk : k < 600) (L : Nat → Int32) (hL : z_LR fl (fun t => V 5 (k * 12 + t)) L) (hL2 : L 2 = nI 7) (hz : ∀ t, J ≤ t → t < 6 → L (7 + t) = 0) (hup : ∃ u, u < 256 ∧ u.testBit i = true ∧ L 6 = nI u) : ∃ V', z_call 46 [.ref b, .ref (b + (9 + 4 * i)), .int (nI k)] G (wr M b V) = some (.inl none, G, wr M b V') ∧ z_R fl kp n B V' (f_h7 i (L 4) (L 6) (fun t => L (7 + t)) s) := by
  have hn : n ≤ 8 := hF.1.1.2
  have hi8 : i < 8 := by omega
  have r6 := rd_6 h hi
  have r10 := rd_10 h hi
  have hf4 := c_A_field hW M V (k := k) (f := 4) hk (by omega)
  have hf5 := c_A_field hW M V (k := k) (f := 5) hk (by omega)
  have l4 : V 5 (k * 12 + 4) = L 4 := hL.1 4 (by omega)
  have l5 : V 5 (k * 12 + 5) = L 6 := hL.2.2.1 hL2
  rw [l4] at hf4
  rw [l5] at hf5
  unfold f_h7
  by_cases hp : s (41 + 28 * i + 6) = nI 6
  · by_cases hG : s (41 + 28 * i + 3) = L 4
    · rw [if_pos ⟨hp, hG⟩]
      obtain ⟨u, u1, u2, u3⟩ := hup
      have R1 := Rm7 h hn hi (L 6)
      have F1 := (FX_um (f := 4) (v := L 6) hF hi (by omega) (by rw [u3]; exact zC_4 u1 u2)).1
      obtain ⟨V2, e2, R2⟩ := s_W_learn hW M R1 F1 hi hk (fun t => L (7 + t)) (fun e t ht => by rw [z_w_c _ _ _ _ _ (by omega)]; exact hL.2.2.2 e t ht) hz
      have R3 := Rm3 R2 hn hi (nI 0)
      have haw := c_W_await hW M (z_w V2 (9 + 4 * i) 3 (nI 0)) hi8 (nI 1) (z_w V2 (9 + 4 * i) 3 (nI 0) 1 0)
      have e10 : z_w V2 (9 + 4 * i) 3 (nI 0) 1 0 = _ := R3.1.2.2.2.1 0 (by omega)
      have R4 := R_ta (R_aw R3 hn hi (nI 1) (z_w V2 (9 + 4 * i) 3 (nI 0) 1 0)) hn hi (k := 6) (by omega)
      refine ⟨_, ?_, z_R_s R4 ?_⟩
      · simp (disch := first | assumption | omega | exact Nat.le_of_ble_eq_true rfl | decide) only [ze_W_onReady, zk_W_onReady_0, xo_2_1, xw_16b hW, xo_6, xo_43, zk_W_onReady_9, xo_2_0, xw_17w_6 hW, xw_17w_3 hW, xw_17b_14 hW, xo_0_2, xo_5, xw_64a_3 hW, xw_64w_3 hW, xk_v, xk_n, zk_W_onReady_25, xw_18b hW, xw_32_1 hW, xw_32_t hW, xw_64w_4 hW, xo_40, xo_20, xw_33_1 hW, xw_33_t hW, xo_55, zk_W_onReady_72, xo_69, hf4, hf5, r6, r10, hp, hG, if_true, if_false, eq_self, Bool.true_eq_false, Bool.false_eq_true, and_true, true_and, and_false, false_and, or_true, true_or, or_false, false_or, ne_eq, not_true_eq_false, not_false_eq_true, decide_true, decide_false, z_sA_id, e2, haw]
      · rw [e10]
        unfold f_rd f_ph
        have hle : ∀ q, (q < 41 + 28 * i + 8 ∨ 41 + 28 * i + 14 ≤ q) → ∀ (t : Nat → Int32) (w : Nat → Int32) (v : Int32), f_le i w (z_u t q v) = z_u (f_le i w t) q v := by
          intro q hq t w v
          unfold f_le
          rw [← z_bw_uc _ _ _ _ _ _ (by omega)]
          funext x; unfold z_bw
          split
          · dsimp only
            rw [z_u_n _ _ (41 + 28 * i + 8 + (x - (41 + 28 * i + 8))) _ (by omega)]
          · rfl
        have hlo : ∀ q, (q < 41 + 28 * i + 8 ∨ 41 + 28 * i + 14 ≤ q) → ∀ (t : Nat → Int32) (w : Nat → Int32), f_le i w t q = t q := by
          intro q hq t w
          unfold f_le; exact z_bw_out _ _ _ _ _ (by omega)
        simp (disch := omega) only [hle, hlo, z_u_n, Nat.add_zero, Nat.reduceAdd]
        generalize f_le i (fun t => L (7 + t)) s = t
        simp (disch := omega) only [z_u_comm]
    · rw [if_neg (fun q => hG q.2)]
      refine ⟨V, ?_, h⟩
      simp (disch := first | assumption | omega | exact Nat.le_of_ble_eq_true rfl | decide) only [ze_W_onReady, zk_W_onReady_0, xo_2_1, xw_16b hW, xo_6, xo_43, zk_W_onReady_9, xo_2_0, xw_17w_6 hW, xw_17w_3 hW, xw_17b_14 hW, xo_0_2, xo_5, xw_64a_3 hW, xw_64w_3 hW, xk_v, xk_n, xw_18b hW, xw_32_1 hW, xw_32_t hW, xw_64w_4 hW, xo_40, xo_20, xw_33_1 hW, xw_33_t hW, xo_55, zk_W_onReady_72, xo_69, hf4, r6, r10, hp, hG, if_true, if_false, eq_self, Bool.true_eq_false, Bool.false_eq_true, and_true, true_and, and_false, false_and, or_true, true_or, or_false, false_or, ne_eq, not_true_eq_false, not_false_eq_true, decide_true, decide_false, z_sA_id]
  · rw [if_neg (fun q => hp q.1)]
    refine ⟨V, ?_, h⟩
    simp (disch := first | assumption | omega | exact Nat.le_of_ble_eq_true rfl | decide) only [ze_W_onReady, zk_W_onReady_0, xo_2_1, xw_16b hW, xo_6, xo_43, xo_2_0, xw_17w_6 hW, xw_17w_3 hW, xw_17b_14 hW, xo_0_2, xo_5, xw_64a_3 hW, xw_64w_3 hW, xk_v, xk_n, xw_18b hW, xw_32_1 hW, xw_32_t hW, xw_64w_4 hW, xo_40, xo_20, xw_33_1 hW, xw_33_t hW, xo_55, zk_W_onReady_72, xo_69, r10, hp, if_true, if_false, eq_self, Bool.true_eq_false, Bool.false_eq_true, and_true, true_and, and_false, false_and, or_true, true_or, or_false, false_or, ne_eq, not_true_eq_false, not_false_eq_true, decide_true, decide_false, z_sA_id]
end
