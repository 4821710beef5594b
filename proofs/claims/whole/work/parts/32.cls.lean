/-! ===== the class: its members' and letters' small methods ===== -/
theorem c_B_leads {G : zG} {b : Nat} (hW : z_HW G b) (M V : zM) {i : Nat} (hi : i < 8) : z_call 31 [.ref (b + (9 + 4 * i))] G (wr M b V) = some (.inl (some (.int (z_b (decide (V (9 + 4 * i) 3 = 0) && decide (V (9 + 4 * i) 4 = V (9 + 4 * i) 0))))), G, wr M b V) := by
  by_cases h1 : V (9 + 4 * i) 3 = 0
  · by_cases h2 : V (9 + 4 * i) 4 = V (9 + 4 * i) 0
    · simp (disch := first | assumption | omega | exact Nat.le_of_ble_eq_true rfl | decide) only [ze_B_leads, zk_B_leads_0, xo_2_0, xw_16b hW, xo_49, zk_B_leads_7, xo_43, zk_B_leads_18, xo_5, xo_54, zk_B_leads_22, xo_55, zk_B_leads_23, xo_72a, xo_72b, h1, h2, if_true, if_false, eq_self, Bool.true_eq_false, Bool.false_eq_true, and_true, true_and, and_false, false_and, or_true, true_or, or_false, false_or, ne_eq, not_true_eq_false, not_false_eq_true, decide_true, decide_false, z_sA_id, Bool.and_true, Bool.true_and, z_bt]
    · simp (disch := first | assumption | omega | exact Nat.le_of_ble_eq_true rfl | decide) only [ze_B_leads, zk_B_leads_0, xo_2_0, xw_16b hW, xo_49, zk_B_leads_7, xo_43, zk_B_leads_18, xo_5, xo_54, zk_B_leads_22, xo_55, zk_B_leads_23, xo_72a, xo_72b, h1, h2, if_true, if_false, eq_self, Bool.true_eq_false, Bool.false_eq_true, and_true, true_and, and_false, false_and, or_true, true_or, or_false, false_or, ne_eq, not_true_eq_false, not_false_eq_true, decide_true, decide_false, z_sA_id, Bool.and_false, Bool.true_and, z_bf]
  · simp (disch := first | assumption | omega | exact Nat.le_of_ble_eq_true rfl | decide) only [ze_B_leads, zk_B_leads_0, xo_2_0, xw_16b hW, xo_49, zk_B_leads_7, xo_43, zk_B_leads_18, xo_5, xo_54, zk_B_leads_22, xo_55, zk_B_leads_23, xo_72a, xo_72b, h1, if_true, if_false, eq_self, Bool.true_eq_false, Bool.false_eq_true, and_true, true_and, and_false, false_and, or_true, true_or, or_false, false_or, ne_eq, not_true_eq_false, not_false_eq_true, decide_true, decide_false, z_sA_id, Bool.false_and, z_bf]
theorem c_B_bit {G : zG} {b : Nat} (hW : z_HW G b) (M V : zM) {i : Nat} (hi : i < 8) : z_call 18 [.ref (b + (9 + 4 * i))] G (wr M b V) = some (.inl (some (.int (nI 1 <<< (V (9 + 4 * i) 0 &&& 31)))), G, wr M b V) := by
  simp (disch := first | assumption | omega | exact Nat.le_of_ble_eq_true rfl | decide) only [ze_B_bit, zk_B_bit_0, xo_5, xo_2_0, xw_16b hW, xo_26, xo_70]
def g_so (i : Nat) (V : zM) : zM := z_w (z_w (z_w V (9 + 4 * i) 7 (nI 1 <<< (V (9 + 4 * i) 0 &&& 31))) (9 + 4 * i) 8 (nI 0)) (9 + 4 * i) 9 (nI 0)
theorem c_B_standAlone {G : zG} {b : Nat} (hW : z_HW G b) (M V : zM) {i : Nat} (hi : i < 8) : z_call 17 [.ref (b + (9 + 4 * i))] G (wr M b V) = some (.inl none, G, wr M b (g_so i V)) := by
  simp (disch := first | assumption | omega | exact Nat.le_of_ble_eq_true rfl | decide) only [ze_B_standAlone, zk_B_standAlone_0, xo_2_0, xw_64b_1 hW, xk_v, xk_n, xw_18b hW, xo_5, xo_69, c_B_bit hW, g_so]
def g_aw (i : Nat) (ph t : Int32) (V : zM) : zM := z_w (z_w V (9 + 4 * i) 10 ph) (9 + 4 * i) 11 (V 0 2 + t)
theorem c_W_await {G : zG} {b : Nat} (hW : z_HW G b) (M V : zM) {i : Nat} (hi : i < 8) (ph t : Int32) : z_call 19 [.ref b, .ref (b + (9 + 4 * i)), .int ph, .int t] G (wr M b V) = some (.inl none, G, wr M b (g_aw i ph t V)) := by
  simp (disch := first | assumption | omega | exact Nat.le_of_ble_eq_true rfl | decide) only [ze_W_await, zk_W_await_0, xo_2_1, xo_0_2, xw_18b hW, xo_2_0, xw_16w hW, xo_0_3, xo_20, xo_69, z_w_s, z_w_n, g_aw]
theorem nx_xor (a b : Nat) : nI a ^^^ nI b = nI (a ^^^ b) := by
  unfold nI
  apply Int32.toBitVec_inj.mp
  simp [BitVec.ofNat_xor]
theorem nx_nneg {a b : Nat} (ha : a < 2 ^ 31) (hb : b < 2 ^ 31) : ¬ nI a ^^^ nI b < 0 := by
  rw [nx_xor]
  exact nI_nlt (b := 0) (Nat.zero_le _) (Nat.xor_lt_two_pow ha hb)
theorem c_J_floorMod (G : zG) (M : zM) {x y : Nat} (hx : x < 2 ^ 31) (h0 : 0 < y) (hy : y < 2 ^ 31) : z_call 249 [.int (nI x), .int (nI y)] G M = some (.inl (some (.int (nI (x % y)))), G, M) := by
  have h1 := nx_nneg hx hy
  have h2 : nI y ≠ 0 := nI_ne0 (by omega) (by omega)
  have h3 := pk_rem hx h0 hy
  simp (disch := first | assumption | omega | exact Nat.le_of_ble_eq_true rfl | decide) only [ze_J_floorMod, zk_J_floorMod_0, xo_0_0, xo_0_1, xo_30, xo_10_2i, xo_10_2r, xo_10_2n, xo_25, xo_51, xo_0_2, xo_48, xo_20, xo_70, zk_J_floorMod_18, h1, h3, if_true, if_false, eq_self, Bool.true_eq_false, Bool.false_eq_true]
def g_rg1 (i : Nat) (g : Int32) (r : Nat) (V : zM) : zM := z_w (z_w (z_w (z_w (z_w (z_w V 8 r (V 0 2)) 8 (r + 1) (V (9 + 4 * i) 0)) 8 (r + 2) (V (9 + 4 * i) 6)) 8 (r + 3) g) 0 8 (V 0 8 + nI 1)) (9 + 4 * i) 6 g
def g_rg (i : Nat) (g : Int32) (V : zM) : zM := if V (9 + 4 * i) 6 = g then V else g_rg1 i g (z_n (V 0 8) % 40 * 4) V
theorem c_W_regroup {G : zG} {b : Nat} (hW : z_HW G b) (M V : zM) {i c : Nat} (hi : i < 8) (hc : c < 2 ^ 31) (hV : V 0 8 = nI c) (g : Int32) : z_call 16 [.ref b, .ref (b + (9 + 4 * i)), .int g] G (wr M b V) = some (.inl none, G, wr M b (g_rg i g V)) := by
  unfold g_rg
  have hz : z_n (V 0 8) = c := by rw [hV]; exact z_nN hc
  rw [hz]
  by_cases h1 : V (9 + 4 * i) 6 = g
  · rw [if_pos h1]
    simp (disch := first | assumption | omega | exact Nat.le_of_ble_eq_true rfl | decide) only [ze_W_regroup, zk_W_regroup_0, xo_2_1, xw_16b hW, xw_16w hW, xo_0_2, xo_43, zk_W_regroup_8, xo_69, xo_2_0, xo_6, xo_63_2, xk_v, xk_n, xo_5, xo_22, xo_10_3i, xo_10_3r, xo_10_3n, xw_17w_7 hW, xo_0_3, xw_33_8 hW, xo_20, xo_39i, xo_39r, xw_18w hW, xw_18b hW, h1, if_true, if_false, eq_self, Bool.true_eq_false, Bool.false_eq_true, and_true, true_and, and_false, false_and, or_true, true_or, or_false, false_or, ne_eq, not_true_eq_false, not_false_eq_true, decide_true, decide_false, z_sA_id]
  · rw [if_neg h1]
    have hr := c_J_floorMod G (wr M b V) hc (show 0 < 40 by omega) (show 40 < 2 ^ 31 by omega)
    have hm40 : c % 40 < 40 := Nat.mod_lt _ (by omega)
    generalize c % 40 = r at hr hm40 ⊢
    simp (disch := first | assumption | omega | exact Nat.le_of_ble_eq_true rfl | decide) only [ze_W_regroup, zk_W_regroup_0, xo_2_1, xw_16b hW, xw_16w hW, xo_0_2, xo_43, xo_69, zk_W_regroup_9, xo_2_0, xo_6, xo_63_2, xk_v, xk_n, xo_5, xo_22, xo_10_3i, xo_10_3r, xo_10_3n, xw_17w_7 hW, xo_0_3, xw_33_8 hW, xo_20, xo_39i, xo_39r, xw_18w hW, xw_18b hW, z_w_s, z_w_n, nI_add, pk_mul, Nat.add_zero, h1, if_true, if_false, eq_self, Bool.true_eq_false, Bool.false_eq_true, and_true, true_and, and_false, false_and, or_true, true_or, or_false, false_or, ne_eq, not_true_eq_false, not_false_eq_true, decide_true, decide_false, z_sA_id, hV, hr, g_rg1]
def g_al (i : Nat) (V : zM) : zM := (fun U => z_w U (12 + 4 * i) 3 (U (12 + 4 * i) 3 + nI 1)) ((fun U => g_aw i (nI 1) (U 1 0) U) (z_w (g_so i ((fun U => z_w U (9 + 4 * i) 4 (U (9 + 4 * i) 0)) (g_rg i (nI 10 * (V (9 + 4 * i) 5 + nI 1) + V (9 + 4 * i) 0) (z_w V (9 + 4 * i) 5 (V (9 + 4 * i) 5 + nI 1))))) (9 + 4 * i) 3 (nI 0)))
theorem c_W_goAlone {G : zG} {b : Nat} (hW : z_HW G b) (M V : zM) {i c : Nat} (hi : i < 8) (hc : c < 2 ^ 31) (hV : V 0 8 = nI c) : z_call 15 [.ref b, .ref (b + (9 + 4 * i))] G (wr M b V) = some (.inl none, G, wr M b (g_al i V)) := by
  have h1 := c_W_regroup hW M (z_w V (9 + 4 * i) 5 (V (9 + 4 * i) 5 + nI 1)) hi hc (by rw [z_w_n _ _ _ _ _ _ (by omega)]; exact hV) (nI 10 * (V (9 + 4 * i) 5 + nI 1) + V (9 + 4 * i) 0)
  unfold g_al
  generalize g_rg i (nI 10 * (V (9 + 4 * i) 5 + nI 1) + V (9 + 4 * i) 0) (z_w V (9 + 4 * i) 5 (V (9 + 4 * i) 5 + nI 1)) = U at h1
  simp (disch := first | assumption | omega | exact Nat.le_of_ble_eq_true rfl | decide) only [ze_W_goAlone, zk_W_goAlone_0, xo_2_1, xo_39i, xo_39r, xw_16b hW, xo_5, xo_20, xw_18b hW, xo_2_0, xo_6, xo_22, xw_64w_3 hW, xk_v, xk_n, xw_64b_1 hW, xw_17w_3 hW, xw_17b_14 hW, xw_32_1 hW, xw_32_t hW, xw_64w_4 hW, xo_40, xw_33_1 hW, xw_33_t hW, xo_69, z_w_s, z_w_n, h1, c_B_standAlone hW, c_W_await hW]
theorem c_A_field {G : zG} {b : Nat} (hW : z_HW G b) (M V : zM) {k f : Nat} (hk : k < 600) (hf : f < 12) : z_call 35 [.ref (b + 4), .int (nI k), .int (nI f)] G (wr M b V) = some (.inl (some (.int (V 5 (k * 12 + f)))), G, wr M b V) := by
  simp (disch := first | assumption | omega | exact Nat.le_of_ble_eq_true rfl | decide) only [ze_A_field, zk_A_field_0, xo_2_0, xw_17a_0 hW, xo_0_1, xo_6, xo_22, xo_0_2, xo_20, xw_32_5 hW, xo_70, nI_add, pk_mul, Nat.add_zero]
