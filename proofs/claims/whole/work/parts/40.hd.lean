/-! ===== alarms, letters: in both ===== -/
theorem z_grT {fl : Bool} {kp : Nat × Nat} {n B : Nat} {V : zM} {s : Nat → Int32} (h : z_R fl kp n B V s) (hn : n ≤ 8) {i f : Nat} (hi : i < n) (hf : f < 256) : ∃ a, a < 256 ∧ V (9 + 4 * i) 2 = nI a ∧ z_pc (f &&& a) = f_gr n s i (nI f) := by
  obtain ⟨_, _, ⟨a, a1, a2, a3⟩, _⟩ := h.2.2.1 i hi
  refine ⟨a, a1, a2, ?_⟩
  rw [z_pcT _ (z_and8 hf)]
  unfold f_gr
  rw [z_ct_cut (n := n) hn (fun j j1 j2 => by
    rw [Nat.testBit_and, a3 j j2, decide_eq_false (fun q => absurd q.1 (by omega)), Bool.and_false])]
  refine z_ct_congr n (fun j hj => ?_)
  rw [Nat.testBit_and, a3 j (by omega), z_hasN f hf j (by omega)]
  congr 1
  exact decide_eq_decide.mpr ⟨fun q => q.2, fun q => ⟨hj, q⟩⟩
section
variable {G : zG} {b : Nat} {fl : Bool} {kp : Nat × Nat} {n J B Bf : Nat} {V : zM} {s : Nat → Int32} {i j : Nat}
theorem s_W_weigh (hW : z_HW G b) (M : zM) (h : z_R fl kp n B V s) (hF : z_F n J Bf s) (hi : i < n) : ∃ V', z_call 50 [.ref b, .ref (b + (9 + 4 * i))] G (wr M b V) = some (.inl none, G, wr M b V') ∧ z_R fl kp n B V' (if s (41 + 28 * i + 5) = 0 ∧ (s (41 + 28 * i + 4) &&& (s (41 + 28 * i + 20) ^^^ nI 4294967295)) &&& ((nI 1 <<< (nI i &&& 31)) ^^^ nI 4294967295) = 0 then f_ph i (nI 1) (s 2) s else f_ph i (nI 3) (nI (f_gr n s i (s (41 + 28 * i + 5))) * s 4) s) := by
  have hn : n ≤ 8 := hF.1.1.2
  have hi8 : i < 8 := by omega
  obtain ⟨f, f1, f2⟩ := F_5 hF hi
  obtain ⟨a, a1, a2, a3⟩ := z_grT h hn hi f1
  have r0 := rd_0 h hi
  have r7 := rd_7 h hi
  have r8 := rd_8 h hi
  have r9 := rd_9 h hi
  have ebit := c_B_bit hW M V hi8
  rw [r0] at ebit
  have e10 : V 1 0 = s 2 := h.1.2.2.2.1 0 (by omega)
  have e12 : V 1 2 = s 4 := h.1.2.2.2.1 2 (by omega)
  have haw := c_W_await hW M V hi8 (nI 1) (s 2)
  have eand := z_andNN f a
  have ebc := c_J_bitCount G (wr M b V) (k := f &&& a) (z_and8 f1)
  rw [a3] at ebc
  have haw3 := c_W_await hW M V hi8 (nI 3) (nI (f_gr n s i (nI f)) * s 4)
  rw [f2]
  rw [f2] at r8
  have hac : s (41 + 28 * i + 4) &&& ((nI 1 <<< (nI i &&& 31)) ^^^ nI 4294967295) &&& (s (41 + 28 * i + 20) ^^^ nI 4294967295) = s (41 + 28 * i + 4) &&& (s (41 + 28 * i + 20) ^^^ nI 4294967295) &&& ((nI 1 <<< (nI i &&& 31)) ^^^ nI 4294967295) := by
    rw [Int32.and_assoc, Int32.and_comm (nI 1 <<< (nI i &&& 31) ^^^ nI 4294967295), ← Int32.and_assoc]
  have h43 : z_ex 50 (z_blk 50 43) [.ref b, .ref (b + (9 + 4 * i))] [] G (wr M b V) = some (.inl none, G, wr M b (g_aw i (nI 3) (nI (f_gr n s i (nI f)) * s 4) V)) := by
    simp (disch := first | assumption | omega | exact Nat.le_of_ble_eq_true rfl | decide) only [xo_2_1, xw_16b hW, xo_49, xw_64b_1 hW, xk_v, xk_n, xo_5, xo_25, xo_23, xo_2_0, xw_17w_3 hW, xw_32_1 hW, xw_64w_4 hW, xo_54, zk_W_weigh_43, xo_63_1, xo_22, xo_55, zk_W_weigh_68, xo_69, r8, a2, eand, ebc, e12, haw3]
  by_cases hf : nI f = 0
  · by_cases hu : (s (41 + 28 * i + 4) &&& (s (41 + 28 * i + 20) ^^^ nI 4294967295)) &&& ((nI 1 <<< (nI i &&& 31)) ^^^ nI 4294967295) = 0
    · rw [if_pos ⟨hf, hu⟩]
      refine ⟨_, ?_, R_aw h hn hi (nI 1) (s 2)⟩
      simp (disch := first | assumption | omega | exact Nat.le_of_ble_eq_true rfl | decide) only [ze_W_weigh, zk_W_weigh_0, xo_2_1, xw_16b hW, xo_49, zk_W_weigh_7, xw_64b_1 hW, xk_v, xk_n, xo_5, xo_25, xo_23, zk_W_weigh_28, xo_2_0, xw_17w_3 hW, xw_32_1 hW, xw_64w_4 hW, xo_54, xo_63_1, xo_22, xo_55, zk_W_weigh_68, xo_69, r7, r8, r9, hf, ebit, hac, hu, if_true, if_false, eq_self, Bool.true_eq_false, Bool.false_eq_true, and_true, true_and, and_false, false_and, or_true, true_or, or_false, false_or, ne_eq, not_true_eq_false, not_false_eq_true, decide_true, decide_false, z_sA_id, e10, haw]
    · rw [if_neg (fun q => hu q.2)]
      refine ⟨_, ?_, R_aw h hn hi (nI 3) _⟩
      rw [← h43]
      simp (disch := first | assumption | omega | exact Nat.le_of_ble_eq_true rfl | decide) only [ze_W_weigh, zk_W_weigh_0, xo_2_1, xw_16b hW, xo_49, zk_W_weigh_7, xw_64b_1 hW, xk_v, xk_n, xo_5, xo_25, xo_23, xo_2_0, xw_17w_3 hW, xw_32_1 hW, xw_64w_4 hW, xo_54, xo_63_1, xo_22, xo_55, xo_69, r7, r8, r9, hf, ebit, hac, hu, if_true, if_false, eq_self, Bool.true_eq_false, Bool.false_eq_true, and_true, true_and, and_false, false_and, or_true, true_or, or_false, false_or, ne_eq, not_true_eq_false, not_false_eq_true, decide_true, decide_false, z_sA_id]
  · rw [if_neg (fun q => hf q.1)]
    refine ⟨_, ?_, R_aw h hn hi (nI 3) _⟩
    rw [← h43]
    simp (disch := first | assumption | omega | exact Nat.le_of_ble_eq_true rfl | decide) only [ze_W_weigh, zk_W_weigh_0, xo_2_1, xw_16b hW, xo_49, xw_64b_1 hW, xk_v, xk_n, xo_5, xo_25, xo_23, xo_2_0, xw_17w_3 hW, xw_32_1 hW, xw_64w_4 hW, xo_54, xo_63_1, xo_22, xo_55, xo_69, r8, hf, if_true, if_false, eq_self, Bool.true_eq_false, Bool.false_eq_true, and_true, true_and, and_false, false_and, or_true, true_or, or_false, false_or, ne_eq, not_true_eq_false, not_false_eq_true, decide_true, decide_false, z_sA_id]
theorem s_W_wake (hW : z_HW G b) (M : zM) (h : z_R fl kp n B V s) (hF : z_F n J Bf s) (hi : i < n) {c p : Nat} (hc : c < n) (hcs : s (41 + 28 * i + 1) = nI c) (hp : p ≤ 6) (hps : s (41 + 28 * i + 6) = nI p) (hB : B < 2 ^ 31 - 1) (hBf : Bf ≤ 100000000) : ∃ V', z_call 48 [.ref b, .ref (b + (9 + 4 * i))] G (wr M b V) = some (.inl none, G, wr M b V') ∧ z_R fl kp n (B + 1) V' (f_rg n i c p s) := by
  have hn : n ≤ 8 := hF.1.1.2
  have hi8 : i < 8 := by omega
  have r10 := rd_10 h hi
  rw [hps] at r10
  have e0 : z_call 48 [.ref b, .ref (b + (9 + 4 * i))] G (wr M b V) = z_ex 48 (z_blk 48 (z_swt 1 (nI p))) [.ref b, .ref (b + (9 + 4 * i))] [] G (wr M b V) := by
    simp (disch := first | assumption | omega | exact Nat.le_of_ble_eq_true rfl | decide) only [ze_W_wake, zk_W_wake_0, xo_2_1, xw_16b hW, xw_16w hW, xo_56, xo_2_0, xw_64w_2 hW, xk_v, xk_n, xo_54, xo_5, xo_43, xw_18b hW, xo_6, xw_64w_6 hW, xw_17w_3 hW, xw_32_1 hW, xw_64w_4 hW, xo_55, xo_69, r10]
  rw [e0]
  have alone : ∃ V', z_ex 48 (z_blk 48 123) [.ref b, .ref (b + (9 + 4 * i))] [] G (wr M b V) = some (.inl none, G, wr M b V') ∧ z_R fl kp n (B + 1) V' (f_al i s) := by
    obtain ⟨V1, e1, R1⟩ := s_W_goAlone hW M h hF hi hB
    exact ⟨V1, by simp (disch := first | assumption | omega | exact Nat.le_of_ble_eq_true rfl | decide) only [xo_2_1, xw_16b hW, xw_16w hW, xo_56, xo_2_0, xw_64w_2 hW, xk_v, xk_n, xo_54, xo_5, xo_43, xw_18b hW, xo_6, xw_64w_6 hW, xw_17w_3 hW, xw_32_1 hW, xw_64w_4 hW, zk_W_wake_123, xo_55, zk_W_wake_128, xo_69, e1], R1⟩
  unfold f_rg
  rcases (show p = 0 ∨ p = 1 ∨ p = 2 ∨ p = 3 ∨ p = 4 ∨ p = 5 ∨ p = 6 by omega) with e | e | e | e | e | e | e
  · subst e; rw [zsw_1_0, if_neg (by omega), if_neg (by omega), if_neg (by omega), if_neg (by omega)]; exact alone
  · subst e; rw [zsw_1_1, if_pos rfl]
    obtain ⟨V1, e1, R1⟩ := s_W_look hW M h hF hi hc hcs
    exact ⟨V1, by simp (disch := first | assumption | omega | exact Nat.le_of_ble_eq_true rfl | decide) only [xo_2_1, xw_16b hW, xw_16w hW, xo_56, zk_W_wake_36, xo_2_0, xw_64w_2 hW, xk_v, xk_n, xo_54, xo_5, xo_43, xw_18b hW, xo_6, xw_64w_6 hW, xw_17w_3 hW, xw_32_1 hW, xw_64w_4 hW, xo_55, zk_W_wake_128, xo_69, e1], z_R_mono (Nat.le_succ B) R1⟩
  · subst e; rw [zsw_1_2, if_neg (by omega), if_pos rfl]
    obtain ⟨V1, e1, R1⟩ := s_W_weigh hW M h hF hi
    have h13 : (nI 1 = nI 3) = False := eq_false (by decide)
    unfold f_r2
    by_cases hq : s (41 + 28 * i + 5) = 0 ∧ (s (41 + 28 * i + 4) &&& (s (41 + 28 * i + 20) ^^^ nI 4294967295)) &&& ((nI 1 <<< (nI i &&& 31)) ^^^ nI 4294967295) = 0
    · rw [if_pos hq] at R1 ⊢
      have q10 : V1 (9 + 4 * i) 10 = nI 1 := by rw [rd_10 R1 hi]; unfold f_ph; rw [z_u_n _ _ _ _ (by omega), z_u_s]
      exact ⟨V1, by simp (disch := first | assumption | omega | exact Nat.le_of_ble_eq_true rfl | decide) only [xo_2_1, xw_16b hW, xw_16w hW, xo_56, xo_2_0, xw_64w_2 hW, xk_v, xk_n, xo_54, zk_W_wake_44, xo_5, xo_43, xw_18b hW, xo_6, xw_64w_6 hW, xw_17w_3 hW, xw_32_1 hW, xw_64w_4 hW, xo_55, zk_W_wake_128, xo_69, e1, q10, h13, if_true, if_false, eq_self, Bool.true_eq_false, Bool.false_eq_true, and_true, true_and, and_false, false_and, or_true, true_or, or_false, false_or, ne_eq, not_true_eq_false, not_false_eq_true, decide_true, decide_false, z_sA_id], z_R_mono (Nat.le_succ B) R1⟩
    · rw [if_neg hq] at R1 ⊢
      have q10 : V1 (9 + 4 * i) 10 = nI 3 := by rw [rd_10 R1 hi]; unfold f_ph; rw [z_u_n _ _ _ _ (by omega), z_u_s]
      have q11 : V1 (9 + 4 * i) 11 = s 6 + nI (f_gr n s i (s (41 + 28 * i + 5))) * s 4 := by rw [rd_11 R1 hi]; unfold f_ph; rw [z_u_s]
      have q02 : V1 0 2 = s 6 := by rw [R1.1.2.2.1]; unfold f_ph; rw [z_u_n _ _ _ _ (by omega), z_u_n _ _ _ _ (by omega)]
      generalize hbe : nI (f_gr n s i (s (41 + 28 * i + 5))) * s 4 = be at R1 q11 ⊢
      by_cases hb : be = 0
      · rw [if_pos hb]
        have hF1 := (FX_ph (p := 3) hF hi (by omega) be).1
        obtain ⟨V2, e2, R2⟩ := s_W_merge hW M R1 hF1 hi hB hBf
        have hmg : f_mg n i (f_ph i (nI 3) be s) = f_mg n i s := by
          unfold f_ph
          rw [f_mg_u _ _ _ _ _ (Or.inr rfl) hi8, f_mg_u _ _ _ _ _ (Or.inl rfl) hi8]
        rw [hmg] at R2
        rw [hb, Int32.add_zero] at q11
        exact ⟨V2, by simp (disch := first | assumption | omega | exact Nat.le_of_ble_eq_true rfl | decide) only [xo_2_1, xw_16b hW, xw_16w hW, xo_56, xo_2_0, xw_64w_2 hW, xk_v, xk_n, xo_54, zk_W_wake_44, xo_5, xo_43, zk_W_wake_57, zk_W_wake_68, xw_18b hW, xo_6, xw_64w_6 hW, xw_17w_3 hW, xw_32_1 hW, xw_64w_4 hW, xo_55, zk_W_wake_128, xo_69, e1, q10, q11, q02, if_true, if_false, eq_self, Bool.true_eq_false, Bool.false_eq_true, and_true, true_and, and_false, false_and, or_true, true_or, or_false, false_or, ne_eq, not_true_eq_false, not_false_eq_true, decide_true, decide_false, z_sA_id, e2], R2⟩
      · rw [if_neg hb]
        have hne : ¬ s 6 + be = s 6 := fun q => by
          have e2 := congrArg (fun x => -s 6 + x) q
          simp only [← Int32.add_assoc, Int32.add_left_neg, Int32.zero_add] at e2
          exact hb e2
        exact ⟨V1, by simp (disch := first | assumption | omega | exact Nat.le_of_ble_eq_true rfl | decide) only [xo_2_1, xw_16b hW, xw_16w hW, xo_56, xo_2_0, xw_64w_2 hW, xk_v, xk_n, xo_54, zk_W_wake_44, xo_5, xo_43, zk_W_wake_57, xw_18b hW, xo_6, xw_64w_6 hW, xw_17w_3 hW, xw_32_1 hW, xw_64w_4 hW, xo_55, zk_W_wake_128, xo_69, e1, q10, q11, q02, hne, if_true, if_false, eq_self, Bool.true_eq_false, Bool.false_eq_true, and_true, true_and, and_false, false_and, or_true, true_or, or_false, false_or, ne_eq, not_true_eq_false, not_false_eq_true, decide_true, decide_false, z_sA_id], z_R_mono (Nat.le_succ B) R1⟩
  · subst e; rw [zsw_1_3, if_neg (by omega), if_neg (by omega), if_pos rfl]
    obtain ⟨V1, e1, R1⟩ := s_W_merge hW M h hF hi hB hBf
    exact ⟨V1, by simp (disch := first | assumption | omega | exact Nat.le_of_ble_eq_true rfl | decide) only [xo_2_1, xw_16b hW, xw_16w hW, xo_56, xo_2_0, xw_64w_2 hW, xk_v, xk_n, xo_54, xo_5, xo_43, zk_W_wake_76, xw_18b hW, xo_6, xw_64w_6 hW, xw_17w_3 hW, xw_32_1 hW, xw_64w_4 hW, xo_55, zk_W_wake_128, xo_69, e1], R1⟩
  · subst e; rw [zsw_1_4, if_neg (by omega), if_neg (by omega), if_neg (by omega), if_pos rfl]
    obtain ⟨u, u1, u2, u3⟩ := F_4 hF hi
    have R1 := Rm3 h hn hi (nI 0)
    have F1 := FX_um (f := 0) (v := nI 0) hF hi (by omega) (zC_0 (by omega))
    have r6 := rd_6 h hi
    have r7 := rd_7 h hi
    rw [u3] at r7
    obtain ⟨V2, e2, R2⟩ := s_W_sendToAll hW M R1 F1.1 hi (k := 7) (by omega) u1 (s (41 + 28 * i + 3)) (nI u) (nI 4294967295) (nI u) (by omega) (fun _ => rfl) (by omega) (fun _ => ⟨u, u1, fun o ho hh => by rw [z_hasN u u1 o (by omega)] at hh; exact hh, rfl⟩) (fun _ => rfl) (by omega)
    have eaw := c_W_await hW M V2 hi8 (nI 1) (V2 1 0)
    have e10 : V2 1 0 = _ := R2.1.2.2.2.1 0 (by omega)
    have R3 := R_aw R2 hn hi (nI 1) (V2 1 0)
    refine ⟨_, ?_, z_R_mono (Nat.le_succ B) (z_R_s R3 ?_)⟩
    · simp (disch := first | assumption | omega | exact Nat.le_of_ble_eq_true rfl | decide) only [xo_2_1, xw_16b hW, xw_16w hW, xo_56, xo_2_0, xw_64w_2 hW, xk_v, xk_n, xo_54, xo_5, xo_43, zk_W_wake_84, xw_18b hW, xo_6, xw_64w_6 hW, xw_17w_3 hW, xw_32_1 hW, xw_64w_4 hW, xo_55, zk_W_wake_128, xo_69, z_w_s, z_w_n, r6, r7, e2, eaw]
    · rw [e10]
      unfold f_r4
      rw [u3]
  · subst e; rw [zsw_1_5, if_neg (by omega), if_neg (by omega), if_neg (by omega), if_neg (by omega)]; exact alone
  · subst e; rw [zsw_1_6, if_neg (by omega), if_neg (by omega), if_neg (by omega), if_neg (by omega)]; exact alone
theorem R_hk (h : z_R fl kp n B V s) (hn : n ≤ 8) {k : Nat} (hk : k < 8) : z_R fl kp n B (z_w V 7 k (V 7 k + nI 1)) (z_u s (17 + k) (s (17 + k) + nI 1)) := by
  obtain ⟨h0, h1, h2, h3, h4, h5⟩ := h
  obtain ⟨q1, q2, q3, q4, q5, q6, q7⟩ := h0
  refine ⟨⟨?_, ?_, ?_, fun j hj => ?_, ?_, fun j hj => ?_, fun j hj => ?_⟩, z_R1_eq h1 hn (z_w_c _ _ _ _ _ (by omega)) (fun a _ _ => z_u_n _ _ _ _ (by omega)), z_R2_eq h2 hn (fun i _ => z_w_c _ _ _ _ _ (by omega)) (fun a _ _ => z_u_n _ _ _ _ (by omega)), fun e => z_R3_eq (h3 e) hn (fun c _ _ => z_w_c _ _ _ _ _ (by omega)) (fun a _ _ => z_u_n _ _ _ _ (by omega)), z_R4_eq h4 (z_w_n _ _ _ _ _ _ (by omega)) (fun f _ => z_w_n _ _ _ _ _ _ (by omega)) (z_w_c _ _ _ _ _ (by omega)) (z_u_n _ _ _ _ (by omega)) (fun a _ _ => z_u_n _ _ _ _ (by omega)), z_R5_eq h5 (z_w_n _ _ _ _ _ _ (by omega)) (z_w_c _ _ _ _ _ (by omega)) (fun a _ => z_u_n _ _ _ _ (by omega)) (fun j _ => by rw [z_w_c _ _ _ _ _ (by omega)])⟩
  · rw [z_w_n _ _ _ _ _ _ (by omega), z_u_n _ _ _ _ (by omega)]; exact q1
  · rw [z_w_n _ _ _ _ _ _ (by omega), z_u_n _ _ _ _ (by omega)]; exact q2
  · rw [z_w_n _ _ _ _ _ _ (by omega), z_u_n _ _ _ _ (by omega)]; exact q3
  · rw [z_w_n _ _ _ _ _ _ (by omega), z_u_n _ _ _ _ (by omega)]; exact q4 j hj
  · rw [z_w_n _ _ _ _ _ _ (by omega), z_u_n _ _ _ _ (by omega)]; exact q5
  · rw [z_w_n _ _ _ _ _ _ (by omega), z_u_n _ _ _ _ (by omega)]; exact q6 j hj
  · by_cases e : j = k
    · subst e; rw [z_w_s, z_u_s, q7 j hj]
    · rw [z_w_n _ _ _ _ _ _ (by omega), z_u_n _ _ _ _ (by omega)]; exact q7 j hj
theorem s_W_handle (hW : z_HW G b) (M : zM) (h : z_R fl kp n B V s) (hF : z_F n J Bf s) {k : Nat} (hk : k < 600) (L : Nat → Int32) (hL : z_LR fl (fun t => V 5 (k * 12 + t)) L) (hC : z_Cl n J L) (hB : B < 2 ^ 31 - 1) : ∃ V', z_call 37 [.ref b, .int (nI k)] G (wr M b V) = some (.inl none, G, wr M b V') ∧ z_R fl kp n (B + 1) V' (f_hd n (z_n (L 1)) (z_n (L 0)) (z_n (L 2)) (z_n (L 5)) L (z_u s (17 + z_n (L 2)) (s (17 + z_n (L 2)) + nI 1))) := by
  have hn : n ≤ 8 := hF.1.1.2
  obtain ⟨j, i, kd, p1, p2, p3, p4, p5, p6, p7, p8, p9, p10, p11⟩ := hC
  have i8 : i < 8 := by omega
  rw [p4, p5, p6, z_nN (show j < 2 ^ 31 by omega), z_nN (show i < 2 ^ 31 by omega), z_nN (show kd < 2 ^ 31 by omega)]
  have l0 : V 5 (k * 12 + 0) = nI j := (hL.1 0 (by omega)).trans p4
  have l1 : V 5 (k * 12 + 1) = nI i := (hL.1 1 (by omega)).trans p5
  have l2 : V 5 (k * 12 + 2) = nI kd := (hL.1 2 (by omega)).trans p6
  have l4 : V 5 (k * 12 + 4) = L 4 := hL.1 4 (by omega)
  have hf0 := c_A_field hW M V (k := k) (f := 0) hk (by omega)
  have hf1 := c_A_field hW M V (k := k) (f := 1) hk (by omega)
  have hf2 := c_A_field hW M V (k := k) (f := 2) hk (by omega)
  have hf4 := c_A_field hW M V (k := k) (f := 4) hk (by omega)
  rw [l0] at hf0
  rw [l1] at hf1
  rw [l2] at hf2
  rw [l4] at hf4
  have R1 := R_hk h hn p3
  have F1 := (FX_ug (a := 17 + kd) (v := s (17 + kd) + nI 1) hF (Or.inl (by omega))).1
  have e0 : z_call 37 [.ref b, .int (nI k)] G (wr M b V) = z_ex 37 (z_blk 37 (z_swt 0 (nI kd))) [.ref b, .int (nI k), .ref (b + (9 + 4 * i)), .int (nI j), .int (L 4), .int (nI kd)] [] G (wr M b (z_w V 7 kd (V 7 kd + nI 1))) := by
    simp (disch := first | assumption | omega | exact Nat.le_of_ble_eq_true rfl | decide) only [ze_W_handle, zk_W_handle_0, xo_2_0, xw_17w_5 hW, xw_17w_6 hW, xw_17a_5 hW, xo_0_1, xo_5, xw_64a_3 hW, xw_64w_3 hW, xk_v, xk_n, xw_34 hW, xo_12_2i, xo_12_2r, xo_12_2n, xo_10_3i, xo_10_3r, xo_10_3n, xo_11_4i, xo_11_4r, xo_11_4n, xo_11_5i, xo_11_5r, xo_11_5n, xo_1_5, xo_40, xw_32_7 hW, xo_20, xw_33_7 hW, xo_56, xo_2_2, xo_0_3, xo_1_4, xw_64w_4 hW, xo_54, xw_16b hW, xo_43, xo_39i, xo_39r, xo_26, xo_24, xw_18b hW, xw_64w_2 hW, xo_55, xo_69, nI_add, pk_mul, Nat.add_zero, hf0, hf1, hf2, hf4]
  rw [e0]
  have hL1 : z_LR fl (fun t => z_w V 7 kd (V 7 kd + nI 1) 5 (k * 12 + t)) L := by rw [z_w_c _ _ _ _ _ (by omega)]; exact hL
  generalize z_w V 7 kd (V 7 kd + nI 1) = U at R1 hL1 ⊢
  generalize z_u s (17 + kd) (s (17 + kd) + nI 1) = t at R1 F1 ⊢
  have r4 := rd_4 R1 p2
  have r6 := rd_6 R1 p2
  have r7 := rd_7 R1 p2
  have r8 := rd_8 R1 p2
  have r10 := rd_10 R1 p2
  unfold f_hd
  rcases (show kd = 0 ∨ kd = 1 ∨ kd = 2 ∨ kd = 3 ∨ kd = 4 ∨ kd = 5 ∨ kd = 6 ∨ kd = 7 by omega) with e | e | e | e | e | e | e | e
  · subst e; rw [zsw_0_0, if_pos rfl]
    obtain ⟨V1, e1, R2⟩ := s_W_onAsk hW M R1 F1 p2 p1 (L 4)
    exact ⟨V1, by simp (disch := first | assumption | omega | exact Nat.le_of_ble_eq_true rfl | decide) only [xo_2_0, xw_17w_5 hW, xw_17w_6 hW, xw_17a_5 hW, xo_0_1, xo_5, xw_64a_3 hW, xw_64w_3 hW, xk_v, xk_n, xw_34 hW, xo_12_2i, xo_12_2r, xo_12_2n, xo_10_3i, xo_10_3r, xo_10_3n, xo_11_4i, xo_11_4r, xo_11_4n, xo_11_5i, xo_11_5r, xo_11_5n, xo_1_5, xo_40, xw_32_7 hW, xo_20, xw_33_7 hW, xo_56, zk_W_handle_104, xo_2_2, xo_0_3, xo_1_4, xw_64w_4 hW, xo_54, xw_16b hW, xo_43, xo_39i, xo_39r, xo_26, xo_24, xw_18b hW, xw_64w_2 hW, xo_55, zk_W_handle_247, xo_69, e1], z_R_mono (Nat.le_succ B) R2⟩
  · subst e; rw [zsw_0_1, if_neg (by omega), if_pos rfl]
    unfold f_h1
    by_cases hp : t (41 + 28 * i + 6) = nI 2
    · rw [if_pos hp]
      rw [hp] at r10
      refine ⟨_, ?_, z_R_mono (Nat.le_succ B) (Rm8 R1 hn p2 _)⟩
      simp (disch := first | assumption | omega | exact Nat.le_of_ble_eq_true rfl | decide) only [xo_2_0, xw_17w_5 hW, xw_17w_6 hW, xw_17a_5 hW, xo_0_1, xo_5, xw_64a_3 hW, xw_64w_3 hW, xk_v, xk_n, xw_34 hW, xo_12_2i, xo_12_2r, xo_12_2n, xo_10_3i, xo_10_3r, xo_10_3n, xo_11_4i, xo_11_4r, xo_11_4n, xo_11_5i, xo_11_5r, xo_11_5n, xo_1_5, xo_40, xw_32_7 hW, xo_20, xw_33_7 hW, xo_56, xo_2_2, xo_0_3, xo_1_4, xw_64w_4 hW, xo_54, zk_W_handle_115, xw_16b hW, xo_43, zk_W_handle_123, xo_39i, xo_39r, xo_26, xo_24, xw_18b hW, xw_64w_2 hW, xo_55, zk_W_handle_247, xo_69, r8, r10, if_true, if_false, eq_self, Bool.true_eq_false, Bool.false_eq_true, and_true, true_and, and_false, false_and, or_true, true_or, or_false, false_or, ne_eq, not_true_eq_false, not_false_eq_true, decide_true, decide_false, z_sA_id]
    · rw [if_neg hp]
      refine ⟨U, ?_, z_R_mono (Nat.le_succ B) R1⟩
      simp (disch := first | assumption | omega | exact Nat.le_of_ble_eq_true rfl | decide) only [xo_2_0, xw_17w_5 hW, xw_17w_6 hW, xw_17a_5 hW, xo_0_1, xo_5, xw_64a_3 hW, xw_64w_3 hW, xk_v, xk_n, xw_34 hW, xo_12_2i, xo_12_2r, xo_12_2n, xo_10_3i, xo_10_3r, xo_10_3n, xo_11_4i, xo_11_4r, xo_11_4n, xo_11_5i, xo_11_5r, xo_11_5n, xo_1_5, xo_40, xw_32_7 hW, xo_20, xw_33_7 hW, xo_56, xo_2_2, xo_0_3, xo_1_4, xw_64w_4 hW, xo_54, zk_W_handle_115, xw_16b hW, xo_43, xo_39i, xo_39r, xo_26, xo_24, xw_18b hW, xw_64w_2 hW, xo_55, zk_W_handle_247, xo_69, r10, hp, if_true, if_false, eq_self, Bool.true_eq_false, Bool.false_eq_true, and_true, true_and, and_false, false_and, or_true, true_or, or_false, false_or, ne_eq, not_true_eq_false, not_false_eq_true, decide_true, decide_false, z_sA_id]
  · subst e; rw [zsw_0_2, if_neg (by omega), if_neg (by omega), if_pos rfl]
    obtain ⟨V1, e1, R2⟩ := s_W_onThere hW M R1 F1 p2 p1 (L 4)
    exact ⟨V1, by simp (disch := first | assumption | omega | exact Nat.le_of_ble_eq_true rfl | decide) only [xo_2_0, xw_17w_5 hW, xw_17w_6 hW, xw_17a_5 hW, xo_0_1, xo_5, xw_64a_3 hW, xw_64w_3 hW, xk_v, xk_n, xw_34 hW, xo_12_2i, xo_12_2r, xo_12_2n, xo_10_3i, xo_10_3r, xo_10_3n, xo_11_4i, xo_11_4r, xo_11_4n, xo_11_5i, xo_11_5r, xo_11_5n, xo_1_5, xo_40, xw_32_7 hW, xo_20, xw_33_7 hW, xo_56, xo_2_2, xo_0_3, xo_1_4, xw_64w_4 hW, xo_54, xw_16b hW, xo_43, xo_39i, xo_39r, xo_26, xo_24, xw_18b hW, zk_W_handle_138, xw_64w_2 hW, xo_55, zk_W_handle_247, xo_69, e1], z_R_mono (Nat.le_succ B) R2⟩
  · subst e; rw [zsw_0_3, if_neg (by omega), if_neg (by omega), if_neg (by omega), if_pos rfl]
    obtain ⟨V1, e1, R2⟩ := s_W_onYes hW M R1 F1 p2 p1 (L 4)
    exact ⟨V1, by simp (disch := first | assumption | omega | exact Nat.le_of_ble_eq_true rfl | decide) only [xo_2_0, xw_17w_5 hW, xw_17w_6 hW, xw_17a_5 hW, xo_0_1, xo_5, xw_64a_3 hW, xw_64w_3 hW, xk_v, xk_n, xw_34 hW, xo_12_2i, xo_12_2r, xo_12_2n, xo_10_3i, xo_10_3r, xo_10_3n, xo_11_4i, xo_11_4r, xo_11_4n, xo_11_5i, xo_11_5r, xo_11_5n, xo_1_5, xo_40, xw_32_7 hW, xo_20, xw_33_7 hW, xo_56, xo_2_2, xo_0_3, xo_1_4, xw_64w_4 hW, xo_54, xw_16b hW, xo_43, xo_39i, xo_39r, xo_26, xo_24, xw_18b hW, zk_W_handle_149, xw_64w_2 hW, xo_55, zk_W_handle_247, xo_69, e1], z_R_mono (Nat.le_succ B) R2⟩
  · subst e; rw [zsw_0_4, if_neg (by omega), if_neg (by omega), if_neg (by omega), if_neg (by omega), if_pos rfl]
    unfold f_h4
    by_cases hp : t (41 + 28 * i + 6) = nI 5
    · by_cases hc : t (41 + 28 * i + 1) = nI j
      · rw [if_pos ⟨hp, hc⟩]
        obtain ⟨V1, e1, R2⟩ := s_W_goAlone hW M R1 F1 p2 hB
        exact ⟨V1, by simp (disch := first | assumption | omega | exact Nat.le_of_ble_eq_true rfl | decide) only [xo_2_0, xw_17w_5 hW, xw_17w_6 hW, xw_17a_5 hW, xo_0_1, xo_5, xw_64a_3 hW, xw_64w_3 hW, xk_v, xk_n, xw_34 hW, xo_12_2i, xo_12_2r, xo_12_2n, xo_10_3i, xo_10_3r, xo_10_3n, xo_11_4i, xo_11_4r, xo_11_4n, xo_11_5i, xo_11_5r, xo_11_5n, xo_1_5, xo_40, xw_32_7 hW, xo_20, xw_33_7 hW, xo_56, xo_2_2, xo_0_3, xo_1_4, xw_64w_4 hW, xo_54, xw_16b hW, xo_43, xo_39i, xo_39r, xo_26, xo_24, xw_18b hW, zk_W_handle_160, zk_W_handle_168, zk_W_handle_176, xw_64w_2 hW, xo_55, zk_W_handle_247, xo_69, r4, r10, hp, hc, if_true, if_false, eq_self, Bool.true_eq_false, Bool.false_eq_true, and_true, true_and, and_false, false_and, or_true, true_or, or_false, false_or, ne_eq, not_true_eq_false, not_false_eq_true, decide_true, decide_false, z_sA_id, e1], R2⟩
      · rw [if_neg (fun q => hc q.2)]
        exact ⟨U, by simp (disch := first | assumption | omega | exact Nat.le_of_ble_eq_true rfl | decide) only [xo_2_0, xw_17w_5 hW, xw_17w_6 hW, xw_17a_5 hW, xo_0_1, xo_5, xw_64a_3 hW, xw_64w_3 hW, xk_v, xk_n, xw_34 hW, xo_12_2i, xo_12_2r, xo_12_2n, xo_10_3i, xo_10_3r, xo_10_3n, xo_11_4i, xo_11_4r, xo_11_4n, xo_11_5i, xo_11_5r, xo_11_5n, xo_1_5, xo_40, xw_32_7 hW, xo_20, xw_33_7 hW, xo_56, xo_2_2, xo_0_3, xo_1_4, xw_64w_4 hW, xo_54, xw_16b hW, xo_43, xo_39i, xo_39r, xo_26, xo_24, xw_18b hW, zk_W_handle_160, zk_W_handle_168, xw_64w_2 hW, xo_55, zk_W_handle_247, xo_69, r4, r10, hp, hc, if_true, if_false, eq_self, Bool.true_eq_false, Bool.false_eq_true, and_true, true_and, and_false, false_and, or_true, true_or, or_false, false_or, ne_eq, not_true_eq_false, not_false_eq_true, decide_true, decide_false, z_sA_id], z_R_mono (Nat.le_succ B) R1⟩
    · rw [if_neg (fun q => hp q.1)]
      exact ⟨U, by simp (disch := first | assumption | omega | exact Nat.le_of_ble_eq_true rfl | decide) only [xo_2_0, xw_17w_5 hW, xw_17w_6 hW, xw_17a_5 hW, xo_0_1, xo_5, xw_64a_3 hW, xw_64w_3 hW, xk_v, xk_n, xw_34 hW, xo_12_2i, xo_12_2r, xo_12_2n, xo_10_3i, xo_10_3r, xo_10_3n, xo_11_4i, xo_11_4r, xo_11_4n, xo_11_5i, xo_11_5r, xo_11_5n, xo_1_5, xo_40, xw_32_7 hW, xo_20, xw_33_7 hW, xo_56, xo_2_2, xo_0_3, xo_1_4, xw_64w_4 hW, xo_54, xw_16b hW, xo_43, xo_39i, xo_39r, xo_26, xo_24, xw_18b hW, zk_W_handle_160, xw_64w_2 hW, xo_55, zk_W_handle_247, xo_69, r10, hp, if_true, if_false, eq_self, Bool.true_eq_false, Bool.false_eq_true, and_true, true_and, and_false, false_and, or_true, true_or, or_false, false_or, ne_eq, not_true_eq_false, not_false_eq_true, decide_true, decide_false, z_sA_id], z_R_mono (Nat.le_succ B) R1⟩
  · subst e; rw [zsw_0_5, if_neg (by omega), if_neg (by omega), if_neg (by omega), if_neg (by omega), if_neg (by omega), if_pos rfl]
    obtain ⟨c, c1, c2, c3⟩ := p7 rfl
    rw [c2, z_nN (show c < 2 ^ 31 by omega)]
    have hf5 := c_A_field hW M U (k := k) (f := 5) hk (by omega)
    have l5 : U 5 (k * 12 + 5) = nI c := (hL1.2.1 p6).trans c2
    rw [l5] at hf5
    obtain ⟨V1, e1, R2⟩ := s_W_onInvite hW M R1 F1 p2 c1 c3 hB
    exact ⟨V1, by simp (disch := first | assumption | omega | exact Nat.le_of_ble_eq_true rfl | decide) only [xo_2_0, xw_17w_5 hW, xw_17w_6 hW, xw_17a_5 hW, xo_0_1, xo_5, xw_64a_3 hW, xw_64w_3 hW, xk_v, xk_n, xw_34 hW, xo_12_2i, xo_12_2r, xo_12_2n, xo_10_3i, xo_10_3r, xo_10_3n, xo_11_4i, xo_11_4r, xo_11_4n, xo_11_5i, xo_11_5r, xo_11_5n, xo_1_5, xo_40, xw_32_7 hW, xo_20, xw_33_7 hW, xo_56, xo_2_2, xo_0_3, xo_1_4, xw_64w_4 hW, xo_54, xw_16b hW, xo_43, xo_39i, xo_39r, xo_26, xo_24, xw_18b hW, xw_64w_2 hW, zk_W_handle_184, xo_55, zk_W_handle_247, xo_69, hf5, e1], R2⟩
  · subst e; rw [zsw_0_6, if_neg (by omega), if_neg (by omega), if_neg (by omega), if_neg (by omega), if_neg (by omega), if_neg (by omega), if_pos rfl]
    unfold f_h6
    by_cases hp : t (41 + 28 * i + 6) = nI 4
    · by_cases hc : t (41 + 28 * i + 3) = L 4
      · rw [if_pos ⟨hp, hc⟩]
        obtain ⟨u, u1, u2, u3⟩ := F_4 F1 p2
        have R2 := Rm7 R1 hn p2 (t (41 + 28 * i + 4) ||| (nI 1 <<< (nI j &&& 31)))
        have F2 := (FX_um (f := 4) (v := t (41 + 28 * i + 4) ||| (nI 1 <<< (nI j &&& 31))) F1 p2 (by omega) (by rw [u3]; exact z_rdC u1 p2 hn u2 (by omega))).1
        obtain ⟨V1, e1, R3⟩ := s_W_learn hW M R2 F2 p2 hk (fun q => L (7 + q)) (fun e q hq => by rw [z_w_c _ _ _ _ _ (by omega)]; exact hL1.2.2.2 e q hq) p11
        exact ⟨V1, by simp (disch := first | assumption | omega | exact Nat.le_of_ble_eq_true rfl | decide) only [xo_2_0, xw_17w_5 hW, xw_17w_6 hW, xw_17a_5 hW, xo_0_1, xo_5, xw_64a_3 hW, xw_64w_3 hW, xk_v, xk_n, xw_34 hW, xo_12_2i, xo_12_2r, xo_12_2n, xo_10_3i, xo_10_3r, xo_10_3n, xo_11_4i, xo_11_4r, xo_11_4n, xo_11_5i, xo_11_5r, xo_11_5n, xo_1_5, xo_40, xw_32_7 hW, xo_20, xw_33_7 hW, xo_56, xo_2_2, xo_0_3, xo_1_4, xw_64w_4 hW, xo_54, xw_16b hW, xo_43, xo_39i, xo_39r, xo_26, xo_24, xw_18b hW, xw_64w_2 hW, zk_W_handle_203, zk_W_handle_211, zk_W_handle_220, xo_55, zk_W_handle_247, xo_69, r6, r7, r10, hp, hc, if_true, if_false, eq_self, Bool.true_eq_false, Bool.false_eq_true, and_true, true_and, and_false, false_and, or_true, true_or, or_false, false_or, ne_eq, not_true_eq_false, not_false_eq_true, decide_true, decide_false, z_sA_id, e1], z_R_mono (Nat.le_succ B) R3⟩
      · rw [if_neg (fun q => hc q.2)]
        exact ⟨U, by simp (disch := first | assumption | omega | exact Nat.le_of_ble_eq_true rfl | decide) only [xo_2_0, xw_17w_5 hW, xw_17w_6 hW, xw_17a_5 hW, xo_0_1, xo_5, xw_64a_3 hW, xw_64w_3 hW, xk_v, xk_n, xw_34 hW, xo_12_2i, xo_12_2r, xo_12_2n, xo_10_3i, xo_10_3r, xo_10_3n, xo_11_4i, xo_11_4r, xo_11_4n, xo_11_5i, xo_11_5r, xo_11_5n, xo_1_5, xo_40, xw_32_7 hW, xo_20, xw_33_7 hW, xo_56, xo_2_2, xo_0_3, xo_1_4, xw_64w_4 hW, xo_54, xw_16b hW, xo_43, xo_39i, xo_39r, xo_26, xo_24, xw_18b hW, xw_64w_2 hW, zk_W_handle_203, zk_W_handle_211, xo_55, zk_W_handle_247, xo_69, r6, r10, hp, hc, if_true, if_false, eq_self, Bool.true_eq_false, Bool.false_eq_true, and_true, true_and, and_false, false_and, or_true, true_or, or_false, false_or, ne_eq, not_true_eq_false, not_false_eq_true, decide_true, decide_false, z_sA_id], z_R_mono (Nat.le_succ B) R1⟩
    · rw [if_neg (fun q => hp q.1)]
      exact ⟨U, by simp (disch := first | assumption | omega | exact Nat.le_of_ble_eq_true rfl | decide) only [xo_2_0, xw_17w_5 hW, xw_17w_6 hW, xw_17a_5 hW, xo_0_1, xo_5, xw_64a_3 hW, xw_64w_3 hW, xk_v, xk_n, xw_34 hW, xo_12_2i, xo_12_2r, xo_12_2n, xo_10_3i, xo_10_3r, xo_10_3n, xo_11_4i, xo_11_4r, xo_11_4n, xo_11_5i, xo_11_5r, xo_11_5n, xo_1_5, xo_40, xw_32_7 hW, xo_20, xw_33_7 hW, xo_56, xo_2_2, xo_0_3, xo_1_4, xw_64w_4 hW, xo_54, xw_16b hW, xo_43, xo_39i, xo_39r, xo_26, xo_24, xw_18b hW, xw_64w_2 hW, zk_W_handle_203, xo_55, zk_W_handle_247, xo_69, r10, hp, if_true, if_false, eq_self, Bool.true_eq_false, Bool.false_eq_true, and_true, true_and, and_false, false_and, or_true, true_or, or_false, false_or, ne_eq, not_true_eq_false, not_false_eq_true, decide_true, decide_false, z_sA_id], z_R_mono (Nat.le_succ B) R1⟩
  · subst e; rw [zsw_0_7, if_neg (by omega), if_neg (by omega), if_neg (by omega), if_neg (by omega), if_neg (by omega), if_neg (by omega), if_neg (by omega)]
    obtain ⟨V1, e1, R2⟩ := s_W_onReady hW M R1 F1 p2 hk L hL1 p6 p11 (p8 rfl)
    exact ⟨V1, by simp (disch := first | assumption | omega | exact Nat.le_of_ble_eq_true rfl | decide) only [xo_2_0, xw_17w_5 hW, xw_17w_6 hW, xw_17a_5 hW, xo_0_1, xo_5, xw_64a_3 hW, xw_64w_3 hW, xk_v, xk_n, xw_34 hW, xo_12_2i, xo_12_2r, xo_12_2n, xo_10_3i, xo_10_3r, xo_10_3n, xo_11_4i, xo_11_4r, xo_11_4n, xo_11_5i, xo_11_5r, xo_11_5n, xo_1_5, xo_40, xw_32_7 hW, xo_20, xw_33_7 hW, xo_56, xo_2_2, xo_0_3, xo_1_4, xw_64w_4 hW, xo_54, xw_16b hW, xo_43, xo_39i, xo_39r, xo_26, xo_24, xw_18b hW, xw_64w_2 hW, zk_W_handle_241, xo_55, zk_W_handle_247, xo_69, e1], z_R_mono (Nat.le_succ B) R2⟩
theorem s_W_arrives (hW : z_HW G b) (M : zM) (h : z_R fl kp n B V s) (hn : n ≤ 8) {k : Nat} (hk : k < 600) (L : Nat → Int32) (hL : z_LR fl (fun t => V 5 (k * 12 + t)) L) (hC : z_Cl n J L) : z_call 36 [.ref b, .int (nI k)] G (wr M b V) = some (.inl (some (.int (z_b (f_ok L s)))), G, wr M b V) := by
  obtain ⟨j, i, kd, p1, p2, p3, p4, p5, p6, p7, p8, p9, p10, p11⟩ := hC
  have i8 : i < 8 := by omega
  unfold f_ok
  rw [p4, p5, z_nN (show j < 2 ^ 31 by omega), z_nN (show i < 2 ^ 31 by omega)]
  have l0 : V 5 (k * 12 + 0) = nI j := (hL.1 0 (by omega)).trans p4
  have l1 : V 5 (k * 12 + 1) = nI i := (hL.1 1 (by omega)).trans p5
  have hf0 := c_A_field hW M V (k := k) (f := 0) hk (by omega)
  have hf1 := c_A_field hW M V (k := k) (f := 1) hk (by omega)
  rw [l0] at hf0
  rw [l1] at hf1
  have r3 := rd_3 h p2
  obtain ⟨⟨w, w1, w2, w3⟩, _⟩ := h.2.1 i p2
  have hwb : w.testBit j = !zf_has (s (25 + j)) (nI i) := by
    rw [w3 j (by omega), decide_eq_true (show j < n ∧ j ≠ i from ⟨p1, p9.2⟩), Bool.true_and]
    obtain ⟨_, ci, c1, c2, c3⟩ := h.2.1 i p2
    obtain ⟨_, cj, d1, d2, d3⟩ := h.2.1 j p1
    congr 1
    rw [c2, d2, z_hasN ci c1 j (by omega), z_hasN cj d1 i (by omega)]
    cases hci : ci.testBit j
    · cases hcj : cj.testBit i
      · rfl
      · have := (d3 i i8 hcj).2.2
        rw [c2, z_hasN ci c1 j (by omega), hci] at this
        exact absurd this Bool.false_ne_true
    · have := (c3 j (by omega) hci).2.2
      rw [d2, z_hasN cj d1 i (by omega)] at this
      exact this.symm
  by_cases hd : s (41 + 28 * i) = nI 2
  · rw [decide_eq_true hd, Bool.not_true, Bool.and_false]
    simp (disch := first | assumption | omega | exact Nat.le_of_ble_eq_true rfl | decide) only [ze_W_arrives, zk_W_arrives_0, xo_2_0, xw_17w_6 hW, xw_17w_5 hW, xw_17w_4 hW, xo_0_1, xo_5, xw_64a_3 hW, xk_v, xk_n, xo_10_2i, xo_10_2r, xo_10_2n, xo_0_2, xw_34 hW, xw_16b hW, xo_42, xw_32_2 hW, xo_26, xo_23, xo_48, xo_54, zk_W_arrives_48, xo_55, zk_W_arrives_49, xo_72a, xo_72b, hf1, r3, hd, if_true, if_false, eq_self, Bool.true_eq_false, Bool.false_eq_true, and_true, true_and, and_false, false_and, or_true, true_or, or_false, false_or, ne_eq, not_true_eq_false, not_false_eq_true, decide_true, decide_false, z_sA_id, z_bf]
  · rw [decide_eq_false hd, Bool.not_false, Bool.and_true, ← hwb]
    cases hb : w.testBit j
    · have e2 : nI w &&& (nI 1 <<< (nI j &&& 31)) = 0 := (z_andN w w1 j (by omega)).mpr hb
      simp (disch := first | assumption | omega | exact Nat.le_of_ble_eq_true rfl | decide) only [ze_W_arrives, zk_W_arrives_0, xo_2_0, xw_17w_6 hW, xw_17w_5 hW, xw_17w_4 hW, xo_0_1, xo_5, xw_64a_3 hW, xk_v, xk_n, xo_10_2i, xo_10_2r, xo_10_2n, xo_0_2, xw_34 hW, xw_16b hW, xo_42, zk_W_arrives_23, xw_32_2 hW, xo_26, xo_23, xo_48, xo_54, zk_W_arrives_48, xo_55, zk_W_arrives_49, xo_72a, xo_72b, hf0, hf1, r3, hd, w2, e2, if_true, if_false, eq_self, Bool.true_eq_false, Bool.false_eq_true, and_true, true_and, and_false, false_and, or_true, true_or, or_false, false_or, ne_eq, not_true_eq_false, not_false_eq_true, decide_true, decide_false, z_sA_id, z_bf]
    · have e2 : ¬ nI w &&& (nI 1 <<< (nI j &&& 31)) = 0 := fun q => by
        have := (z_andN w w1 j (by omega)).mp q
        rw [hb] at this; exact Bool.false_ne_true this.symm
      simp (disch := first | assumption | omega | exact Nat.le_of_ble_eq_true rfl | decide) only [ze_W_arrives, zk_W_arrives_0, xo_2_0, xw_17w_6 hW, xw_17w_5 hW, xw_17w_4 hW, xo_0_1, xo_5, xw_64a_3 hW, xk_v, xk_n, xo_10_2i, xo_10_2r, xo_10_2n, xo_0_2, xw_34 hW, xw_16b hW, xo_42, zk_W_arrives_23, xw_32_2 hW, xo_26, xo_23, xo_48, zk_W_arrives_44, xo_54, xo_55, zk_W_arrives_49, xo_72a, xo_72b, hf0, hf1, r3, hd, w2, e2, if_true, if_false, eq_self, Bool.true_eq_false, Bool.false_eq_true, and_true, true_and, and_false, false_and, or_true, true_or, or_false, false_or, ne_eq, not_true_eq_false, not_false_eq_true, decide_true, decide_false, z_sA_id, z_bt]
end
