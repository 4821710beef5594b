/-! ===== exchange: the class's tick without units and tallies ===== -/
theorem R_mono_add {fl : Bool} {kp : Nat × Nat} {n B k : Nat} {V : zM} {s : Nat → Int32} (h : z_R fl kp n (B + k) V s) : z_R fl kp n (B + (k + 1)) V s := z_R_mono (by omega) h
theorem s_W_exchange {G : zG} {b : Nat} {fl : Bool} {n J B Bf : Nat} {V : zM} {s : Nat → Int32} (hW : z_HW G b) (M : zM) (h : z_R fl (0, 0) n B V s) (hF : z_F n J Bf s) (hB : B ≤ 1000000000) (hBf : Bf ≤ 80000000) : ∃ V', z_call 34 [.ref b] G (wr M b V) = some (.inl (some (.int (nI (f_hn n s)))), G, wr M b V') ∧ z_R fl (0, 0) n (B + 308) V' (f_ex n s) ∧ z_F n J (Bf + 308) (f_ex n s) := by
  have hn : n ≤ 8 := hF.1.1.2
  obtain ⟨m, hm, e8, z8⟩ := z_F_m hF
  have hc0 : V 0 2 = s 6 := h.1.2.2.1
  have R0 := R_clk h hn (s 6 + nI 1)
  have F0 : z_F n J Bf (z_u s 6 (s 6 + nI 1)) := F_6u hF
  have h41 : V 4 1 = nI m := by
    obtain ⟨_, sz, g1, g2, _, _, _, g6, g7, _⟩ := h.2.2.2.2.1
    have : m = sz := (nI_eq (by omega) (by omega)).mp (e8.symm.trans (g6.trans (show nI (0 + (sz - 0)) = nI sz by congr 1; omega)))
    rw [g2, this]
  have e8' : z_u s 6 (s 6 + nI 1) 8 = nI m := by rw [z_u_n _ _ _ _ (by omega)]; exact e8
  have z8' : z_n (z_u s 6 (s 6 + nI 1) 8) = m := by rw [e8']; exact z_nN (by omega)
  have e0 : z_call 34 [.ref b] G (wr M b V) = z_ex 34 (z_blk 34 22) [.ref b, .int (nI 0), .int (nI m), .int (nI 0)] [] G (wr M b (z_w V 0 2 (s 6 + nI 1))) := by
    simp (disch := first | assumption | omega | exact Nat.le_of_ble_eq_true rfl | decide) only [ze_W_exchange, zk_W_exchange_0, xo_2_0, xo_39i, xo_39r, xw_16w hW, xw_16a hW, xw_16b hW, xo_5, xo_20, xw_18w hW, xw_18a hW, xo_10_1i, xo_10_1r, xo_10_1n, xw_17w_6 hW, xw_17w_5 hW, xo_10_2i, xo_10_2r, xo_10_2n, xo_10_3i, xo_10_3r, xo_10_3n, xo_55, xo_0_3, xo_0_2, xo_45, xw_64a_3 hW, xk_v, xk_n, xo_43, xw_64w_2 hW, xw_64a_2 hW, xo_48, xo_15_1i, xo_15_1r, xo_15_1n, xo_54, xo_15_3i, xo_15_3r, xo_15_3n, xw_34 hW, xo_42, xo_0_1, xo_70, nI_add, pk_mul, Nat.add_zero, z_w_s, z_w_n, hc0, h41]
  have hAI : z_AI n J Bf m (s 6 + nI 1) 0 (0, z_u s 6 (s 6 + nI 1), 0) := ⟨F0, (z_u_s s 6 (s 6 + nI 1) : z_u s 6 (s 6 + nI 1) 6 = s 6 + nI 1), Nat.zero_le _, by dsimp only; omega, fun p p1 p2 => by dsimp only at p1 p2; omega, hm⟩
  have hfar : f_ar n (z_u s 6 (s 6 + nI 1)) = z_fd (fun _ a => f_as n a) m 0 (0, z_u s 6 (s 6 + nI 1), 0) := by unfold f_ar; rw [z8']
  unfold f_ex f_hn
  rw [hfar]
  generalize z_u s 6 (s 6 + nI 1) = s0 at *
  generalize s 6 + nI 1 = clk at *
  generalize z_w V 0 2 clk = V0 at *
  obtain ⟨V1, e1, R1, A1⟩ := z_sim2 (fun k U (a : Nat × (Nat → Int32) × Nat) => z_ex 34 (z_blk 34 22) [.ref b, .int (nI a.2.2), .int (nI m), .int (nI k)] [] G (wr M b U)) (fun _ a => f_as n a) (fun k U a => z_R fl (k, a.1) n (B + k) U a.2.1 ∧ z_AI n J Bf m clk k a) m (by
    intro k U a hk hI
    obtain ⟨hR, hA⟩ := hI
    have hA2 := z_AI_step hA hk (by omega)
    obtain ⟨kk, t, hh⟩ := a
    obtain ⟨tF, t6, _, t2, t3, _⟩ := id hA
    dsimp only at hR tF t6 t2 t3
    obtain ⟨mt, hmt, m8, mz⟩ := z_F_m tF
    rw [mz] at t2 t3
    have hlt : nI k < nI m := nI_lt hk (by omega)
    have hclk : U 0 2 = clk := hR.1.2.2.1.trans t6
    obtain ⟨gk, sz, g1, g2, g3, g4, g5, g6, g7, g8, g9⟩ := id hR.2.2.2.2.1
    dsimp only at gk g3 g4 g5 g6 g7 g8 g9
    rw [gk] at g6 g7
    have em : kk + (sz - k) = mt := (nI_eq (by omega) (by omega)).mp (g6.symm.trans m8)
    have hksz : k < sz := by omega
    have hLR : z_LR fl (fun q => U 5 (k * 12 + q)) (fun q => t (265 + 13 * kk + q)) := by
      have := g9 k (Nat.le_refl _) hksz
      rw [gk, Nat.sub_self, Nat.add_zero] at this
      exact this
    have hdue : U 5 (k * 12 + 3) = t (265 + 13 * kk + 3) := hLR.1 3 (by omega)
    have hf := c_A_field hW M U (k := k) (f := 3) (by omega) (by omega)
    rw [hdue] at hf
    unfold f_as at hA2 ⊢
    dsimp only at hA2 ⊢
    by_cases hd : t (265 + 13 * kk + 3) = t 6
    · rw [if_pos hd] at hA2 ⊢
      rw [hd, t6] at hf
      have R1 := R_adv2 hR hn (by omega) m8 hmt (by omega) (by rw [hdue, hd, hclk, t6])
      have F1 := F_to (k := kk) tF m8 hmt (by omega)
      have hC := tF.2.2.2.2.2 kk (by omega)
      have hLR1 : z_LR fl (fun q => z_w U 4 2 (U 4 2 + nI 1) 5 (k * 12 + q)) (fun q => t (265 + 13 * kk + q)) := by rw [z_w_c _ _ _ _ _ (by omega)]; exact hLR
      have ear := s_W_arrives hW M R1 hn (k := k) (by omega) (fun q => t (265 + 13 * kk + q)) hLR1 hC
      unfold f_av at hA2 ⊢
      cases hok : f_ok (fun q => t (265 + 13 * kk + q)) (f_to kk t)
      · rw [hok] at hA2 ear
        rw [if_neg (by decide)] at hA2 ⊢
        refine ⟨_, ?_, R_mono_add (R_lost R1 hn), hA2⟩
        conv => lhs; rw [zk_W_exchange_22]
        simp (disch := first | assumption | omega | exact Nat.le_of_ble_eq_true rfl | decide) only [xo_2_0, xo_39i, xo_39r, xw_16w hW, xw_16a hW, xw_16b hW, xo_5, xo_20, xw_18w hW, xw_18a hW, xo_10_1i, xo_10_1r, xo_10_1n, xw_17w_6 hW, xw_17w_5 hW, xo_10_2i, xo_10_2r, xo_10_2n, xo_10_3i, xo_10_3r, xo_10_3n, xo_55, xo_0_3, xo_0_2, xo_45, zk_W_exchange_27, xw_64a_3 hW, xk_v, xk_n, xo_43, zk_W_exchange_43, xw_64w_2 hW, xw_64a_2 hW, xo_48, xo_15_1i, xo_15_1r, xo_15_1n, xo_54, zk_W_exchange_75, zk_W_exchange_88, xo_15_3i, xo_15_3r, xo_15_3n, xw_34 hW, xo_42, xo_0_1, xo_70, nI_add, pk_mul, Nat.add_zero, z_w_s, z_w_n, hlt, hf, hclk, ear, z_b0, Bool.toNat_false, if_true, if_false, eq_self, Bool.true_eq_false, Bool.false_eq_true, and_true, true_and, and_false, false_and, or_true, true_or, or_false, false_or, ne_eq, not_true_eq_false, not_false_eq_true, decide_true, decide_false, z_sA_id]
      · rw [hok] at hA2 ear
        rw [if_pos rfl] at hA2 ⊢
        obtain ⟨V2, e2, R2⟩ := s_W_handle hW M R1 F1 (k := k) (by omega) (fun q => t (265 + 13 * kk + q)) hLR1 hC (by omega)
        refine ⟨V2, ?_, R2, hA2⟩
        conv => lhs; rw [zk_W_exchange_22]
        simp (disch := first | assumption | omega | exact Nat.le_of_ble_eq_true rfl | decide) only [xo_2_0, xo_39i, xo_39r, xw_16w hW, xw_16a hW, xw_16b hW, xo_5, xo_20, xw_18w hW, xw_18a hW, xo_10_1i, xo_10_1r, xo_10_1n, xw_17w_6 hW, xw_17w_5 hW, xo_10_2i, xo_10_2r, xo_10_2n, xo_10_3i, xo_10_3r, xo_10_3n, xo_55, xo_0_3, xo_0_2, xo_45, zk_W_exchange_27, xw_64a_3 hW, xk_v, xk_n, xo_43, zk_W_exchange_43, xw_64w_2 hW, xw_64a_2 hW, xo_48, zk_W_exchange_64, xo_15_1i, xo_15_1r, xo_15_1n, xo_54, zk_W_exchange_88, xo_15_3i, xo_15_3r, xo_15_3n, xw_34 hW, xo_42, xo_0_1, xo_70, nI_add, pk_mul, Nat.add_zero, z_w_s, z_w_n, hlt, hf, hclk, ear, z_b0, Bool.toNat_true, if_true, if_false, eq_self, Bool.true_eq_false, Bool.false_eq_true, and_true, true_and, and_false, false_and, or_true, true_or, or_false, false_or, ne_eq, not_true_eq_false, not_false_eq_true, decide_true, decide_false, z_sA_id, e2]
    · rw [if_neg hd] at hA2 ⊢
      have hd2 : ¬ t (265 + 13 * kk + 3) = clk := fun q => hd (q.trans t6.symm)
      have R1 := R_adv1 hR (by omega) ⟨sz, g1, g2, hksz⟩ (by rw [hdue, hclk]; exact hd2)
      refine ⟨U, ?_, R_mono_add R1, hA2⟩
      conv => lhs; rw [zk_W_exchange_22]
      simp (disch := first | assumption | omega | exact Nat.le_of_ble_eq_true rfl | decide) only [xo_2_0, xo_39i, xo_39r, xw_16w hW, xw_16a hW, xw_16b hW, xo_5, xo_20, xw_18w hW, xw_18a hW, xo_10_1i, xo_10_1r, xo_10_1n, xw_17w_6 hW, xw_17w_5 hW, xo_10_2i, xo_10_2r, xo_10_2n, xo_10_3i, xo_10_3r, xo_10_3n, xo_55, xo_0_3, xo_0_2, xo_45, zk_W_exchange_27, xw_64a_3 hW, xk_v, xk_n, xo_43, xw_64w_2 hW, xw_64a_2 hW, xo_48, xo_15_1i, xo_15_1r, xo_15_1n, xo_54, zk_W_exchange_88, xo_15_3i, xo_15_3r, xo_15_3n, xw_34 hW, xo_42, xo_0_1, xo_70, nI_add, pk_mul, Nat.add_zero, hlt, hf, hclk, hd2, if_true, if_false, eq_self, Bool.true_eq_false, Bool.false_eq_true, and_true, true_and, and_false, false_and, or_true, true_or, or_false, false_or, ne_eq, not_true_eq_false, not_false_eq_true, decide_true, decide_false, z_sA_id]) m 0 V0 (0, s0, 0) (by omega) ⟨R0, hAI⟩
  generalize z_fd (fun _ a => f_as n a) m 0 (0, s0, 0) = a at e1 R1 A1 ⊢
  obtain ⟨kk, t, hh⟩ := a
  obtain ⟨tF, t6, _, t2, t3, _⟩ := A1
  dsimp only at R1 tF t6 t2 t3 e1 ⊢
  obtain ⟨mt, hmt, m8, mz⟩ := z_F_m tF
  rw [mz] at t2 t3
  have hclk : V1 0 2 = clk := R1.1.2.2.1.trans t6
  obtain ⟨V2, e2, R2⟩ := s_A_dropDue hW M R1 hn (by
    intro sz' j s1 s2 j1 j2
    obtain ⟨gk, sz, g1, g2, g3, g4, g5, g6, g7, g8, g9⟩ := id R1.2.2.2.2.1
    dsimp only at gk g3 g4 g5 g6 g7 g8 g9
    have esz : sz' = sz := (nI_eq (by omega) (by omega)).mp (s1.symm.trans g2)
    subst esz
    rw [gk] at g6 g7
    have em : kk + (sz' - m) = mt := (nI_eq (by omega) (by omega)).mp (g6.symm.trans m8)
    have := (g9 j j1 j2).1 3 (by omega)
    dsimp only at this
    rw [gk] at this
    rw [this, hclk]
    exact t3 _ (by omega) (by omega))
  have hlt : ¬ nI m < nI m := nI_nlt (Nat.le_refl _) (by omega)
  have e3 : z_ex 34 (z_blk 34 22) [.ref b, .int (nI hh), .int (nI m), .int (nI m)] [] G (wr M b V1) = z_ex 34 (z_blk 34 107) [.ref b, .int (nI hh), .int (nI m), .int (nI 0)] [] G (wr M b V2) := by
    conv => lhs; rw [zk_W_exchange_22]
    simp (disch := first | assumption | omega | exact Nat.le_of_ble_eq_true rfl | decide) only [xo_2_0, xo_39i, xo_39r, xw_16w hW, xw_16a hW, xw_16b hW, xo_5, xo_20, xw_18w hW, xw_18a hW, xo_10_1i, xo_10_1r, xo_10_1n, xw_17w_6 hW, xw_17w_5 hW, xo_10_2i, xo_10_2r, xo_10_2n, xo_10_3i, xo_10_3r, xo_10_3n, xo_55, xo_0_3, xo_0_2, xo_45, xw_64a_3 hW, xk_v, xk_n, xo_43, xw_64w_2 hW, xw_64a_2 hW, xo_48, xo_15_1i, xo_15_1r, xo_15_1n, xo_54, xo_15_3i, xo_15_3r, xo_15_3n, zk_W_exchange_94, xw_34 hW, xo_42, xo_0_1, xo_70, nI_add, pk_mul, Nat.add_zero, hlt, if_true, if_false, eq_self, Bool.true_eq_false, Bool.false_eq_true, and_true, true_and, and_false, false_and, or_true, true_or, or_false, false_or, ne_eq, not_true_eq_false, not_false_eq_true, decide_true, decide_false, z_sA_id, e2]
  obtain ⟨V3, e4, R3, F3⟩ := z_sim (fun i U => z_ex 34 (z_blk 34 107) [.ref b, .int (nI hh), .int (nI m), .int (nI i)] [] G (wr M b U)) (f_r1s n) (fun i U r => z_R fl (0, 0) n (B + m + i) U r ∧ z_F n J (Bf + m + i) r) n (by
    intro i U r hi hI
    obtain ⟨hR, hT⟩ := hI
    have hi8 : i < 8 := by omega
    have h0 : U 0 0 = nI n := hR.1.1.trans hT.1.1.1
    have hlt : nI i < nI n := nI_lt hi (by omega)
    have r3 := rd_3 hR hi
    have r11 := rd_11 hR hi
    have rc : U 0 2 = r 6 := hR.1.2.2.1
    obtain ⟨c, c1, c2⟩ := F_1 hT hi
    obtain ⟨p, p1, p2⟩ := F_6 hT hi
    have F4 := FX_r1s hT hi (by omega)
    unfold f_r1s at F4 ⊢
    rw [c2, p2, z_nN (show c < 2 ^ 31 by omega), z_nN (show p < 2 ^ 31 by omega)] at F4 ⊢
    by_cases hd : r (41 + 28 * i) = nI 2
    · rw [if_pos hd] at F4 ⊢
      refine ⟨U, ?_, R_mono_add hR, F4.1⟩
      conv => lhs; rw [zk_W_exchange_107]
      simp (disch := first | assumption | omega | exact Nat.le_of_ble_eq_true rfl | decide) only [xo_2_0, xo_39i, xo_39r, xw_16w hW, xw_16a hW, xw_16b hW, xo_5, xo_20, xw_18w hW, xw_18a hW, xo_10_1i, xo_10_1r, xo_10_1n, xw_17w_6 hW, xw_17w_5 hW, xo_10_2i, xo_10_2r, xo_10_2n, xo_10_3i, xo_10_3r, xo_10_3n, xo_55, xo_0_3, xo_0_2, xo_45, xw_64a_3 hW, xk_v, xk_n, xo_43, xw_64w_2 hW, xw_64a_2 hW, xo_48, xo_15_1i, xo_15_1r, xo_15_1n, xo_54, xo_15_3i, xo_15_3r, xo_15_3n, zk_W_exchange_115, xw_34 hW, xo_42, zk_W_exchange_154, xo_0_1, xo_70, nI_add, pk_mul, Nat.add_zero, h0, hlt, r3, hd, if_true, if_false, eq_self, Bool.true_eq_false, Bool.false_eq_true, and_true, true_and, and_false, false_and, or_true, true_or, or_false, false_or, ne_eq, not_true_eq_false, not_false_eq_true, decide_true, decide_false, z_sA_id]
    · rw [if_neg hd] at F4 ⊢
      by_cases ha : r (41 + 28 * i + 7) = r 6
      · rw [if_pos ha] at F4 ⊢
        obtain ⟨V4, e4, R4⟩ := s_W_wake hW M hR hT hi c1 c2 p1 p2 (by omega) (by omega)
        refine ⟨V4, ?_, R4, F4.1⟩
        conv => lhs; rw [zk_W_exchange_107]
        simp (disch := first | assumption | omega | exact Nat.le_of_ble_eq_true rfl | decide) only [xo_2_0, xo_39i, xo_39r, xw_16w hW, xw_16a hW, xw_16b hW, xo_5, xo_20, xw_18w hW, xw_18a hW, xo_10_1i, xo_10_1r, xo_10_1n, xw_17w_6 hW, xw_17w_5 hW, xo_10_2i, xo_10_2r, xo_10_2n, xo_10_3i, xo_10_3r, xo_10_3n, xo_55, xo_0_3, xo_0_2, xo_45, xw_64a_3 hW, xk_v, xk_n, xo_43, xw_64w_2 hW, xw_64a_2 hW, xo_48, xo_15_1i, xo_15_1r, xo_15_1n, xo_54, xo_15_3i, xo_15_3r, xo_15_3n, zk_W_exchange_115, xw_34 hW, xo_42, zk_W_exchange_128, zk_W_exchange_144, zk_W_exchange_154, xo_0_1, xo_70, nI_add, pk_mul, Nat.add_zero, h0, hlt, r3, r11, rc, hd, ha, if_true, if_false, eq_self, Bool.true_eq_false, Bool.false_eq_true, and_true, true_and, and_false, false_and, or_true, true_or, or_false, false_or, ne_eq, not_true_eq_false, not_false_eq_true, decide_true, decide_false, z_sA_id, e4]
      · rw [if_neg ha] at F4 ⊢
        refine ⟨U, ?_, R_mono_add hR, F4.1⟩
        conv => lhs; rw [zk_W_exchange_107]
        simp (disch := first | assumption | omega | exact Nat.le_of_ble_eq_true rfl | decide) only [xo_2_0, xo_39i, xo_39r, xw_16w hW, xw_16a hW, xw_16b hW, xo_5, xo_20, xw_18w hW, xw_18a hW, xo_10_1i, xo_10_1r, xo_10_1n, xw_17w_6 hW, xw_17w_5 hW, xo_10_2i, xo_10_2r, xo_10_2n, xo_10_3i, xo_10_3r, xo_10_3n, xo_55, xo_0_3, xo_0_2, xo_45, xw_64a_3 hW, xk_v, xk_n, xo_43, xw_64w_2 hW, xw_64a_2 hW, xo_48, xo_15_1i, xo_15_1r, xo_15_1n, xo_54, xo_15_3i, xo_15_3r, xo_15_3n, zk_W_exchange_115, xw_34 hW, xo_42, zk_W_exchange_128, zk_W_exchange_154, xo_0_1, xo_70, nI_add, pk_mul, Nat.add_zero, h0, hlt, r3, r11, rc, hd, ha, if_true, if_false, eq_self, Bool.true_eq_false, Bool.false_eq_true, and_true, true_and, and_false, false_and, or_true, true_or, or_false, false_or, ne_eq, not_true_eq_false, not_false_eq_true, decide_true, decide_false, z_sA_id]) n 0 V2 t (by omega) ⟨R2, tF⟩
  refine ⟨V3, ?_, z_R_mono (by omega) R3, z_F_mono (by omega) F3⟩
  have h0 : V3 0 0 = nI n := R3.1.1.trans F3.1.1.1
  have hltn : ¬ nI n < nI n := nI_nlt (Nat.le_refl _) (by omega)
  rw [e0]
  refine e1.trans (e3.trans (e4.trans ?_))
  conv => lhs; rw [zk_W_exchange_107]
  simp (disch := first | assumption | omega | exact Nat.le_of_ble_eq_true rfl | decide) only [xo_2_0, xo_39i, xo_39r, xw_16w hW, xw_16a hW, xw_16b hW, xo_5, xo_20, xw_18w hW, xw_18a hW, xo_10_1i, xo_10_1r, xo_10_1n, xw_17w_6 hW, xw_17w_5 hW, xo_10_2i, xo_10_2r, xo_10_2n, xo_10_3i, xo_10_3r, xo_10_3n, xo_55, xo_0_3, xo_0_2, xo_45, xw_64a_3 hW, xk_v, xk_n, xo_43, xw_64w_2 hW, xw_64a_2 hW, xo_48, xo_15_1i, xo_15_1r, xo_15_1n, xo_54, xo_15_3i, xo_15_3r, xo_15_3n, xw_34 hW, xo_42, zk_W_exchange_160, xo_0_1, xo_70, nI_add, pk_mul, Nat.add_zero, h0, hltn, if_true, if_false, eq_self, Bool.true_eq_false, Bool.false_eq_true, and_true, true_and, and_false, false_and, or_true, true_or, or_false, false_or, ne_eq, not_true_eq_false, not_false_eq_true, decide_true, decide_false, z_sA_id]
