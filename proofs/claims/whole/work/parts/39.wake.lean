/-! ===== invitations, mergers, alarms: in both ===== -/
theorem f_ng_u (i : Nat) (s : Nat → Int32) (q : Nat) (v : Int32) (h : q = 41 + 28 * i + 6 ∨ q = 41 + 28 * i + 7) (hi : i < 8) : f_ng i (z_u s q v) = z_u (f_ng i s) q v := by
  unfold f_ng f_nf
  rw [z_u_n _ _ (41 + 28 * i + 2) _ (by omega), z_u_comm s q _ _ _ (by omega), f_chg_u _ _ _ _ _ (by omega) (by omega) (by omega), z_u_comm _ q _ _ _ (by omega), z_u_comm _ q _ _ _ (by omega), z_u_comm _ q _ _ _ (by omega)]
theorem f_mg_u (n i : Nat) (s : Nat → Int32) (q : Nat) (v : Int32) (h : q = 41 + 28 * i + 6 ∨ q = 41 + 28 * i + 7) (hi : i < 8) : f_mg n i (z_u s q v) = f_mg n i s := by
  unfold f_mg f_mg2
  rw [z_u_n _ _ (41 + 28 * i + 5) _ (by omega), z_u_n _ _ (41 + 28 * i + 4) _ (by omega), f_ng_u _ _ _ _ h hi]
  rw [z_u_n _ _ (41 + 28 * i + 3) _ (by omega), z_u_n _ _ (41 + 28 * i + 25) _ (by omega), z_u_comm _ q _ _ _ (by omega), z_u_comm _ q _ _ _ (by omega), f_sa_u _ _ _ _ _ _ _ _ _ _ (by omega) (by omega) (by omega) (by omega)]
  dsimp only
  unfold f_ph
  rw [z_u_n _ _ 3 _ (by omega), z_u_n _ _ 6 _ (by omega)]
  generalize f_sa n i 5 _ _ _ _ _ = t
  rcases h with e | e
  · subst e; rw [z_u_u]
  · subst e; rw [z_u_comm _ (41 + 28 * i + 7) _ _ _ (by omega), z_u_u]
section
variable {G : zG} {b : Nat} {fl : Bool} {kp : Nat × Nat} {n J B Bf : Nat} {V : zM} {s : Nat → Int32} {i j : Nat}
theorem c_W_all (hW : z_HW G b) (M V : zM) {n : Nat} (h0 : V 0 0 = nI n) : z_call 12 [.ref b] G (wr M b V) = some (.inl (some (.int ((nI 1 <<< (nI n &&& 31)) - nI 1))), G, wr M b V) := by
  simp (disch := first | assumption | omega | exact Nat.le_of_ble_eq_true rfl | decide) only [ze_W_all, zk_W_all_0, xo_5, xo_2_0, xw_16w hW, xo_26, xo_21, xo_70, h0]
theorem s_W_regroup (hW : z_HW G b) (M : zM) (h : z_R fl kp n B V s) (hF : z_F n J Bf s) (hi : i < n) (g : Int32) (hB : B < 2 ^ 31 - 1) : ∃ V', z_call 16 [.ref b, .ref (b + (9 + 4 * i)), .int g] G (wr M b V) = some (.inl none, G, wr M b V') ∧ z_R fl kp n (B + 1) V' (f_chg i g s) := by
  have hn : n ≤ 8 := hF.1.1.2
  obtain ⟨c, c1, c2, _⟩ := h.2.2.2.2.2.1
  exact ⟨g_rg i g V, c_W_regroup hW M V (by omega) (by omega) c2 g, R_chg h hF hi g hB⟩
theorem s_W_goAlone (hW : z_HW G b) (M : zM) (h : z_R fl kp n B V s) (hF : z_F n J Bf s) (hi : i < n) (hB : B < 2 ^ 31 - 1) : ∃ V', z_call 15 [.ref b, .ref (b + (9 + 4 * i))] G (wr M b V) = some (.inl none, G, wr M b V') ∧ z_R fl kp n (B + 1) V' (f_al i s) := by
  have hn : n ≤ 8 := hF.1.1.2
  obtain ⟨c, c1, c2, _⟩ := h.2.2.2.2.2.1
  exact ⟨g_al i V, c_W_goAlone hW M V (by omega) (by omega) c2, R_al h hF hi hB⟩
theorem s_W_onInvite (hW : z_HW G b) (M : zM) (h : z_R fl kp n B V s) (hF : z_F n J Bf s) (hi : i < n) {c : Nat} (hc : c < n) {g : Int32} (hg : g ≠ 0) (hB : B < 2 ^ 31 - 1) : ∃ V', z_call 43 [.ref b, .ref (b + (9 + 4 * i)), .int (nI c), .int g] G (wr M b V) = some (.inl none, G, wr M b V') ∧ z_R fl kp n (B + 1) V' (f_in n i c g s) := by
  have hn : n ≤ 8 := hF.1.1.2
  have hi8 : i < 8 := by omega
  have r0 := rd_0 h hi
  have r3 := rd_3 h hi
  unfold f_in
  by_cases hN : s (41 + 28 * i) = 0
  · by_cases hic : i = c
    · rw [if_neg (fun q => q.2 hic)]
      refine ⟨V, ?_, z_R_mono (Nat.le_succ B) h⟩
      subst hic
      simp (disch := first | assumption | omega | exact Nat.le_of_ble_eq_true rfl | decide) only [ze_W_onInvite, zk_W_onInvite_0, xo_2_1, xw_16b hW, xo_49, zk_W_onInvite_7, xo_0_2, xo_43, zk_W_onInvite_15, xo_69, xw_64b_1 hW, xk_v, xk_n, xo_48, xo_2_0, xo_5, xo_26, xo_25, xo_23, xo_0_3, xw_64w_6 hW, xo_55, xw_18b hW, xw_64w_3 hW, xo_6, xw_17w_3 hW, xw_17b_14 hW, xw_32_1 hW, xw_32_t hW, xo_22, xw_64w_4 hW, xo_40, xo_20, xw_33_1 hW, xw_33_t hW, r0, r3, hN, if_true, if_false, eq_self, Bool.true_eq_false, Bool.false_eq_true, and_true, true_and, and_false, false_and, or_true, true_or, or_false, false_or, ne_eq, not_true_eq_false, not_false_eq_true, decide_true, decide_false, z_sA_id]
    · rw [if_pos ⟨hN, hic⟩]
      have hne : (nI i = nI c) = False := eq_false (fun q => hic ((nI_eq (by omega) (by omega)).mp q))
      -- from block 41 on, over any state
      have tail : ∀ (U : zM) (t : Nat → Int32), z_R fl kp n B U t → z_F n J Bf t → ∃ V', z_ex 43 (z_blk 43 41) [.ref b, .ref (b + (9 + 4 * i)), .int (nI c), .int g] [] G (wr M b U) = some (.inl none, G, wr M b V') ∧ z_R fl kp n (B + 1) V' (f_in4 i c g t) := by
        intro U t hR hT
        have R1 := Rm4 (Rm3 hR hn hi (nI 1)) hn hi (nI c)
        have F1 := FX_um (f := 0) (v := nI 1) hT hi (by omega) (zC_0 (by omega))
        have F2 := FX_um (f := 1) (v := nI c) F1.1 hi (by omega) (zC_1 hc)
        obtain ⟨V2, e2, R2⟩ := s_W_regroup hW M R1 F2.1 hi g hB
        have F3 := FX_chg F2.1 hi hg
        have R3 := R_so R2 hn hi
        have eso := c_B_standAlone hW M V2 hi8
        have F4 := FX_um (f := 4) (v := nI 1 <<< (nI i &&& 31)) F3.1 hi (by omega) (by rw [z_bitN i (by omega)]; exact zC_4 (z_pow8 i (by omega)) (Nat.testBit_two_pow_self))
        have F5 := FX_nf F4.1 hi
        obtain ⟨sz, z1, z2⟩ := z_R_sz R3
        have esd := c_W_send hW M (g_so i V2) (i := i) (to := c) (k := 6) hi8 (by omega) z1 z2 g (nI 4294967295)
        have R4 := R_sd (to := c) (k := 6) R3 F5.1 hi (by omega) g (nI 4294967295) (nI 4294967295) (nI 4294967295) (by omega) (by omega)
        generalize g_ad i c 6 (g_so i V2 0 2 + g_so i V2 1 3) g (nI 4294967295) (g_so i V2) = V4 at esd R4
        have eaw := c_W_await hW M V4 hi8 (nI 6) (nI 3 * V4 1 1)
        have e11 : V4 1 1 = _ := R4.1.2.2.2.1 1 (by omega)
        have R5 := R_ta (R_aw R4 hn hi (nI 6) (nI 3 * V4 1 1)) hn hi (k := 5) (by omega)
        refine ⟨_, ?_, z_R_s R5 ?_⟩
        · simp (disch := first | assumption | omega | exact Nat.le_of_ble_eq_true rfl | decide) only [xo_2_1, xw_16b hW, xo_49, xo_0_2, xo_43, xo_69, xw_64b_1 hW, xk_v, xk_n, xo_48, xo_2_0, xo_5, xo_26, xo_25, xo_23, xo_0_3, xw_64w_6 hW, xo_55, zk_W_onInvite_41, xw_18b hW, xw_64w_3 hW, xo_6, xw_17w_3 hW, xw_17b_14 hW, xw_32_1 hW, xw_32_t hW, xo_22, xw_64w_4 hW, xo_40, xo_20, xw_33_1 hW, xw_33_t hW, nI_add, pk_mul, Nat.add_zero, e2, eso, esd, eaw]
        · rw [e11]
          unfold f_in4 f_in3 f_in2 f_nf f_ph
          simp (disch := omega) only [f_sd_u, f_sd_lo, z_u_n, Nat.add_zero, Nat.reduceAdd]
          generalize f_sd i c 6 g (nI 4294967295) (nI 4294967295) (f_chg i g (z_u (z_u t (41 + 28 * i) (nI 1)) (41 + 28 * i + 1) (nI c))) = r
          simp (disch := omega) only [z_u_comm]
      have hld := c_B_leads hW M V hi8
      rw [leadsN h hi] at hld
      unfold f_in1
      by_cases hch : s (41 + 28 * i + 1) = nI i
      · rw [if_pos hch]
        obtain ⟨u, u1, u2, u3⟩ := F_4 hF hi
        have r7 := rd_7 h hi
        rw [u3] at r7
        rw [u3]
        have hset := z_nbN u u1 c (by omega)
        rw [hset]
        obtain ⟨V1, e1, R1⟩ := s_W_sendToAll hW M h hF hi (k := 5) (by omega) (z_and8 (b := 255 - 2 ^ c) u1) g (nI c) (nI c) (nI 4294967295) (fun _ => rfl) (by omega) (fun _ => ⟨c, hc, rfl, hg⟩) (by omega) (by omega) (fun _ => rfl)
        have F1 := FX_sa (a := i) (k := 5) (set := nI (u &&& (255 - 2 ^ c))) (told := g) (who := nI c) (up := nI 4294967295) hF hi (by omega) (fun _ => ⟨c, hc, rfl, hg⟩) (by omega) (by omega) (fun _ => rfl)
        obtain ⟨V2, e2, R2⟩ := tail V1 _ R1 F1.1
        refine ⟨V2, ?_, R2⟩
        rw [← e2]
        simp (disch := first | assumption | omega | exact Nat.le_of_ble_eq_true rfl | decide) only [ze_W_onInvite, zk_W_onInvite_0, xo_2_1, xw_16b hW, xo_49, zk_W_onInvite_7, xo_0_2, xo_43, xo_69, zk_W_onInvite_16, xw_64b_1 hW, xk_v, xk_n, xo_48, zk_W_onInvite_23, xo_2_0, xo_5, xo_26, xo_25, xo_23, xo_0_3, xw_64w_6 hW, xo_55, xw_18b hW, xw_64w_3 hW, xo_6, xw_17w_3 hW, xw_17b_14 hW, xw_32_1 hW, xw_32_t hW, xo_22, xw_64w_4 hW, xo_40, xo_20, xw_33_1 hW, xw_33_t hW, r0, r3, r7, hN, hch, hne, hld, hset, z_b0, if_true, if_false, eq_self, Bool.true_eq_false, Bool.false_eq_true, and_true, true_and, and_false, false_and, or_true, true_or, or_false, false_or, ne_eq, not_true_eq_false, not_false_eq_true, decide_true, decide_false, z_sA_id, e1]
      · rw [if_neg hch]
        obtain ⟨V2, e2, R2⟩ := tail V s h hF
        refine ⟨V2, ?_, R2⟩
        rw [← e2]
        simp (disch := first | assumption | omega | exact Nat.le_of_ble_eq_true rfl | decide) only [ze_W_onInvite, zk_W_onInvite_0, xo_2_1, xw_16b hW, xo_49, zk_W_onInvite_7, xo_0_2, xo_43, xo_69, zk_W_onInvite_16, xw_64b_1 hW, xk_v, xk_n, xo_48, xo_2_0, xo_5, xo_26, xo_25, xo_23, xo_0_3, xw_64w_6 hW, xo_55, xw_18b hW, xw_64w_3 hW, xo_6, xw_17w_3 hW, xw_17b_14 hW, xw_32_1 hW, xw_32_t hW, xo_22, xw_64w_4 hW, xo_40, xo_20, xw_33_1 hW, xw_33_t hW, r0, r3, hN, hch, hne, hld, z_b0, if_true, if_false, eq_self, Bool.true_eq_false, Bool.false_eq_true, and_true, true_and, and_false, false_and, or_true, true_or, or_false, false_or, ne_eq, not_true_eq_false, not_false_eq_true, decide_true, decide_false, z_sA_id]
  · rw [if_neg (fun q => hN q.1)]
    refine ⟨V, ?_, z_R_mono (Nat.le_succ B) h⟩
    simp (disch := first | assumption | omega | exact Nat.le_of_ble_eq_true rfl | decide) only [ze_W_onInvite, zk_W_onInvite_0, xo_2_1, xw_16b hW, xo_49, xo_0_2, xo_43, zk_W_onInvite_15, xo_69, xw_64b_1 hW, xk_v, xk_n, xo_48, xo_2_0, xo_5, xo_26, xo_25, xo_23, xo_0_3, xw_64w_6 hW, xo_55, xw_18b hW, xw_64w_3 hW, xo_6, xw_17w_3 hW, xw_17b_14 hW, xw_32_1 hW, xw_32_t hW, xo_22, xw_64w_4 hW, xo_40, xo_20, xw_33_1 hW, xw_33_t hW, r3, hN, if_true, if_false, eq_self, Bool.true_eq_false, Bool.false_eq_true, and_true, true_and, and_false, false_and, or_true, true_or, or_false, false_or, ne_eq, not_true_eq_false, not_false_eq_true, decide_true, decide_false, z_sA_id]
theorem s_W_merge (hW : z_HW G b) (M : zM) (h : z_R fl kp n B V s) (hF : z_F n J Bf s) (hi : i < n) (hB : B < 2 ^ 31 - 1) (hBf : Bf ≤ 100000000) : ∃ V', z_call 51 [.ref b, .ref (b + (9 + 4 * i))] G (wr M b V) = some (.inl none, G, wr M b V') ∧ z_R fl kp n (B + 1) V' (f_mg n i s) := by
  have hn : n ≤ 8 := hF.1.1.2
  have hi8 : i < 8 := by omega
  obtain ⟨c, hc, ec⟩ := F_2 hF hi
  obtain ⟨u, u1, u2, u3⟩ := F_4 hF hi
  obtain ⟨f, f1, f2⟩ := F_5 hF hi
  have r0 := rd_0 h hi
  have r5 := rd_5 h hi
  have hz := z_grN (c := c) (i := i) (by omega) (by omega)
  rw [← ec] at hz
  have R1 := Rm5 h hn hi (s (41 + 28 * i + 2) + nI 1)
  have F1 := FX_um (f := 2) (v := s (41 + 28 * i + 2) + nI 1) (z_F_mono (Nat.le_succ Bf) hF) hi (by omega) (by rw [ec, nI_add]; exact zC_2 (by omega))
  obtain ⟨V2, e2, R2⟩ := s_W_regroup hW M R1 F1.1 hi (nI 10 * (s (41 + 28 * i + 2) + nI 1) + nI i) hB
  have F2 := FX_chg F1.1 hi hz
  have R3 := Rm3 R2 hn hi (nI 1)
  have F3 := FX_um (f := 0) (v := nI 1) F2.1 hi (by omega) (zC_0 (by omega))
  have q6 := rd_6 R2 hi
  have q7 := rd_7 R2 hi
  have q8 := rd_8 R2 hi
  have q0 := rd_0 R2 hi
  have hg3 := F_3 F2.1 hi
  have lo4 : f_chg i (nI 10 * (s (41 + 28 * i + 2) + nI 1) + nI i) (z_u s (41 + 28 * i + 2) (s (41 + 28 * i + 2) + nI 1)) (41 + 28 * i + 4) = nI u := by rw [f_chg_lo _ _ _ _ (by omega), z_u_n _ _ _ _ (by omega), z_u_n _ _ _ _ (by omega)]; exact u3
  have lo5 : f_chg i (nI 10 * (s (41 + 28 * i + 2) + nI 1) + nI i) (z_u s (41 + 28 * i + 2) (s (41 + 28 * i + 2) + nI 1)) (41 + 28 * i + 5) = nI f := by rw [f_chg_lo _ _ _ _ (by omega), z_u_n _ _ _ _ (by omega), z_u_n _ _ _ _ (by omega)]; exact f2
  rw [lo4] at q7
  rw [lo5] at q8
  unfold f_mg f_mg2 f_ng
  rw [u3, f2]
  generalize f_chg i (nI 10 * (s (41 + 28 * i + 2) + nI 1) + nI i) (z_u s (41 + 28 * i + 2) (s (41 + 28 * i + 2) + nI 1)) = t2 at *
  obtain ⟨V4, e4, R4⟩ := s_W_sendToAll hW M R3 F3.1 hi (k := 5) (by omega) (z_or256 f1 u1) (t2 (41 + 28 * i + 3)) (nI i) (nI i) (nI 4294967295) (fun _ => rfl) (by omega) (fun _ => ⟨i, hi, rfl, hg3⟩) (by omega) (by omega) (fun _ => rfl)
  have R5 := R_so R4 hn hi
  have eso := c_B_standAlone hW M V4 hi8
  have eaw := c_W_await hW M (g_so i V4) hi8 (nI 4) (nI 2 * g_so i V4 1 1)
  have e11 : g_so i V4 1 1 = _ := R5.1.2.2.2.1 1 (by omega)
  have R6 := R_ta (R_aw R5 hn hi (nI 4) (nI 2 * g_so i V4 1 1)) hn hi (k := 4) (by omega)
  have hor := z_orNN f u
  refine ⟨_, ?_, z_R_s R6 ?_⟩
  · simp (disch := first | assumption | omega | exact Nat.le_of_ble_eq_true rfl | decide) only [ze_W_merge, zk_W_merge_0, xo_2_1, xo_39i, xo_39r, xw_16b hW, xo_5, xo_20, xw_18b hW, xo_2_0, xo_6, xo_22, xw_64w_3 hW, xk_v, xk_n, xo_24, xw_64w_6 hW, xw_64b_1 hW, xw_17w_3 hW, xw_17b_14 hW, xw_32_1 hW, xw_32_t hW, xw_64w_4 hW, xo_40, xw_33_1 hW, xw_33_t hW, xo_69, nI_add, pk_mul, Nat.add_zero, z_w_s, z_w_n, r0, r5, e2, q0, q6, q7, q8, hor, e4, eso, eaw]
  · rw [e11]
    have hset : f_sa n i 5 ((nI f ||| nI u) &&& ((nI 1 <<< (nI i &&& 31)) ^^^ nI 4294967295)) (t2 (41 + 28 * i + 3)) (nI i) (nI 4294967295) (z_u t2 (41 + 28 * i) (nI 1)) = f_sa n i 5 (nI (f ||| u)) (t2 (41 + 28 * i + 3)) (nI i) (nI 4294967295) (z_u t2 (41 + 28 * i) (nI 1)) := by
      refine f_sa_set _ _ _ _ _ _ _ _ _ (fun o ho hoi => ?_)
      rw [hor, z_nbN _ (z_or256 f1 u1) i hi8, z_hasN _ (z_and8 (z_or256 f1 u1)) o (by omega), z_hasN _ (z_or256 f1 u1) o (by omega), z_nbT _ (z_or256 f1 u1) i hi8 o (by omega), decide_eq_false hoi, Bool.not_false, Bool.and_true]
    rw [← hset]
    unfold f_nf f_ph
    simp (disch := omega) only [f_sa_u, f_sa_lo, z_u_n, Nat.add_zero, Nat.reduceAdd]
    generalize f_sa n i 5 ((nI f ||| nI u) &&& ((nI 1 <<< (nI i &&& 31)) ^^^ nI 4294967295)) (t2 (41 + 28 * i + 3)) (nI i) (nI 4294967295) t2 = r
    simp (disch := omega) only [z_u_comm]
theorem s_W_look (hW : z_HW G b) (M : zM) (h : z_R fl kp n B V s) (hF : z_F n J Bf s) (hi : i < n) {c : Nat} (hc : c < n) (hcs : s (41 + 28 * i + 1) = nI c) : ∃ V', z_call 49 [.ref b, .ref (b + (9 + 4 * i))] G (wr M b V) = some (.inl none, G, wr M b V') ∧ z_R fl kp n B V' (f_r1 n i c s) := by
  have hn : n ≤ 8 := hF.1.1.2
  have hi8 : i < 8 := by omega
  have r0 := rd_0 h hi
  have r4 := rd_4 h hi
  have r6 := rd_6 h hi
  rw [hcs] at r4
  unfold f_r1
  rw [hcs]
  by_cases hci : c = i
  · subst hci
    rw [if_pos rfl]
    have R1 := Rm9 (Rm8 h hn hi (nI 0)) hn hi (nI 0)
    have F1 := FX_nf hF hi
    have h0 : z_w (z_w V (9 + 4 * c) 8 (nI 0)) (9 + 4 * c) 9 (nI 0) 0 0 = nI n := R1.1.1.trans F1.1.1.1.1
    have eall := c_W_all hW M _ h0
    rw [z_allN n hn] at eall ⊢
    have q6 := rd_6 R1 hi
    have q6' : f_nf c s (41 + 28 * c + 3) = s (41 + 28 * c + 3) := by unfold f_nf; rw [z_u_n _ _ _ _ (by omega), z_u_n _ _ _ _ (by omega)]
    obtain ⟨V2, e2, R2⟩ := s_W_sendToAll hW M R1 F1.1 hi (k := 0) (by omega) (z_pow256 n hn) (f_nf c s (41 + 28 * c + 3)) (nI 4294967295) (nI 4294967295) (nI 4294967295) (by omega) (by omega) (by omega) (by omega) (fun _ => rfl) (fun _ => rfl)
    have eaw := c_W_await hW M V2 hi8 (nI 2) (V2 1 1)
    have e11 : V2 1 1 = _ := R2.1.2.2.2.1 1 (by omega)
    have R3 := R_aw R2 hn hi (nI 2) (V2 1 1)
    rw [q6'] at e2
    refine ⟨_, ?_, z_R_s R3 ?_⟩
    · simp (disch := first | assumption | omega | exact Nat.le_of_ble_eq_true rfl | decide) only [ze_W_look, zk_W_look_0, xo_2_1, xw_16b hW, xo_43, zk_W_look_11, xo_5, xw_18b hW, xo_2_0, xw_64w_1 hW, xk_v, xk_n, xw_64w_6 hW, xw_17w_3 hW, xw_32_1 hW, xw_64w_4 hW, xo_54, xo_55, zk_W_look_78, xo_69, nI_add, pk_mul, Nat.add_zero, z_w_s, z_w_n, r0, r4, r6, if_true, if_false, eq_self, Bool.true_eq_false, Bool.false_eq_true, and_true, true_and, and_false, false_and, or_true, true_or, or_false, false_or, ne_eq, not_true_eq_false, not_false_eq_true, decide_true, decide_false, z_sA_id, eall, e2, eaw]
    · rw [e11]
      rfl
  · have hne : (nI c = nI i) = False := eq_false (fun q => hci ((nI_eq (by omega) (by omega)).mp q))
    rw [if_neg (fun q => by rw [hne] at q; exact q)]
    obtain ⟨sz, z1, z2⟩ := z_R_sz h
    have esd := c_W_send hW M V (i := i) (to := c) (k := 2) hi8 (by omega) z1 z2 (s (41 + 28 * i + 3)) (nI 4294967295)
    have R2 := R_sd (to := c) (k := 2) h hF hi (by omega) (s (41 + 28 * i + 3)) (nI 4294967295) (nI 4294967295) (nI 4294967295) (by omega) (by omega)
    generalize g_ad i c 2 (V 0 2 + V 1 3) (s (41 + 28 * i + 3)) (nI 4294967295) V = V2 at esd R2
    have eaw := c_W_await hW M V2 hi8 (nI 5) (V2 1 1)
    have e11 : V2 1 1 = _ := R2.1.2.2.2.1 1 (by omega)
    have R3 := R_aw R2 hn hi (nI 5) (V2 1 1)
    refine ⟨_, ?_, z_R_s R3 ?_⟩
    · simp (disch := first | assumption | omega | exact Nat.le_of_ble_eq_true rfl | decide) only [ze_W_look, zk_W_look_0, xo_2_1, xw_16b hW, xo_43, xo_5, xw_18b hW, xo_2_0, xw_64w_1 hW, xk_v, xk_n, xw_64w_6 hW, xw_17w_3 hW, xw_32_1 hW, xw_64w_4 hW, xo_54, zk_W_look_51, xo_55, zk_W_look_78, xo_69, nI_add, pk_mul, Nat.add_zero, z_w_s, z_w_n, r0, r4, r6, hne, if_true, if_false, eq_self, Bool.true_eq_false, Bool.false_eq_true, and_true, true_and, and_false, false_and, or_true, true_or, or_false, false_or, ne_eq, not_true_eq_false, not_false_eq_true, decide_true, decide_false, z_sA_id, esd, eaw]
    · rw [e11]
end
