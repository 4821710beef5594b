/-! ===== the class's storm: all healed, all up ===== -/
def f_up1 (i : Nat) (t : Nat → Int32) : Nat → Int32 := if t (41 + 28 * i) = nI 2 then f_al i t else t
def f_s4 (n : Nat) (s : Nat → Int32) : Nat → Int32 := z_fd f_up1 n 0 (f_he n s)
def f_st (n : Nat) (p : (Nat → Int32) × Int32) : (Nat → Int32) × Int32 := (f_s4 n (z_fd (fun _ p => f_s3 n p) 8 0 p).1, (z_fd (fun _ p => f_s3 n p) 8 0 p).2)
theorem l_C_storm93 {G : zG} {b d n J B Bf : Nat} (hW : z_HW G b) (M V : zM) {s : Nat → Int32} (h : z_R false (0, 0) n B V s) (hF : z_F n J Bf s) (hB : B ≤ 90000000) (hBf : Bf ≤ 60000000) (w2 w3 w4 : Value) : ∃ V', z_ex 145 (z_blk 145 93) [.ref b, .ref d, w2, w3, w4] [] G (wr M b V) = some (.inl none, G, wr M b V') ∧ z_R false (0, 0) n (B + 8) V' (f_s4 n s) ∧ z_F n J (Bf + 8) (f_s4 n s) := by
  have hn : n ≤ 8 := hF.1.1.2
  obtain ⟨V0, e0, R0⟩ := s_W_mend hW M h hF
  have F0 := F_he hF
  have a0 : z_ex 145 (z_blk 145 93) [.ref b, .ref d, w2, w3, w4] [] G (wr M b V) = z_ex 145 (z_blk 145 100) [.ref b, .ref d, .int (nI 0), w3, w4] [] G (wr M b V0) := by
    simp (disch := first | assumption | omega | exact Nat.le_of_ble_eq_true rfl | decide) only [xo_5, xo_10_2i, xo_10_2r, xo_10_2n, xo_55, xo_0_2, xo_6, xo_45, xo_2_1, xo_64_2, xw_64w_2 hW, xk_v, xk_n, xo_10_3i, xo_10_3r, xo_10_3n, xo_0_3, xo_49, xo_2_0, xw_16w hW, xw_16b hW, xo_54, xo_43, xo_26, xo_41, xw_64w_1 hW, xo_20, xo_11_4i, xo_11_4r, xo_11_4n, xo_1_4, xo_53, xo_15_4i, xo_15_4r, xo_15_4n, xo_15_2i, xo_15_2r, xo_15_2n, zk_C_storm_93, xw_17w_5 hW, xw_34 hW, xo_69, e0, if_true, if_false, eq_self, Bool.true_eq_false, Bool.false_eq_true]
  obtain ⟨V1, e1, R1, F1⟩ := z_sim2 (fun k U (_ : Nat → Int32) => z_ex 145 (z_blk 145 100) [.ref b, .ref d, .int (nI k), w3, w4] [] G (wr M b U)) f_up1 (fun k U t => z_R false (0, 0) n (B + k) U t ∧ z_F n J (Bf + k) t) n (by
    intro k U t hk hI
    obtain ⟨hR, hT⟩ := hI
    have hk8 : k < 8 := by omega
    have hlt : nI k < nI n := nI_lt hk (by omega)
    have h0 : U 0 0 = nI n := hR.1.1.trans hT.1.1.1
    have r3 := rd_3 hR hk
    unfold f_up1
    by_cases hc : t (41 + 28 * k) = nI 2
    · rw [if_pos hc]
      obtain ⟨U1, u1, u2⟩ := s_W_goAlone hW M hR hT hk (by omega)
      refine ⟨U1, ?_, u2, (FX_al hT hk (by omega)).1⟩
      conv => lhs; rw [zk_C_storm_100]
      simp (disch := first | assumption | omega | exact Nat.le_of_ble_eq_true rfl | decide) only [xo_5, xo_10_2i, xo_10_2r, xo_10_2n, xo_55, xo_0_2, xo_6, xo_45, xo_2_1, xo_64_2, xw_64w_2 hW, xk_v, xk_n, xo_10_3i, xo_10_3r, xo_10_3n, xo_0_3, xo_49, xo_2_0, xw_16w hW, xw_16b hW, xo_54, xo_43, xo_26, xo_41, xw_64w_1 hW, xo_20, xo_11_4i, xo_11_4r, xo_11_4n, xo_1_4, xo_53, xo_15_4i, xo_15_4r, xo_15_4n, xo_15_2i, xo_15_2r, xo_15_2n, zk_C_storm_108, xw_17w_5 hW, xw_34 hW, zk_C_storm_121, zk_C_storm_131, xo_69, nI_add, pk_mul, Nat.add_zero, h0, hlt, r3, hc, u1, if_true, if_false, eq_self, Bool.true_eq_false, Bool.false_eq_true]
    · rw [if_neg hc]
      refine ⟨U, ?_, z_R_mono (by omega) hR, z_F_mono (by omega) hT⟩
      conv => lhs; rw [zk_C_storm_100]
      simp (disch := first | assumption | omega | exact Nat.le_of_ble_eq_true rfl | decide) only [xo_5, xo_10_2i, xo_10_2r, xo_10_2n, xo_55, xo_0_2, xo_6, xo_45, xo_2_1, xo_64_2, xw_64w_2 hW, xk_v, xk_n, xo_10_3i, xo_10_3r, xo_10_3n, xo_0_3, xo_49, xo_2_0, xw_16w hW, xw_16b hW, xo_54, xo_43, xo_26, xo_41, xw_64w_1 hW, xo_20, xo_11_4i, xo_11_4r, xo_11_4n, xo_1_4, xo_53, xo_15_4i, xo_15_4r, xo_15_4n, xo_15_2i, xo_15_2r, xo_15_2n, zk_C_storm_108, xw_17w_5 hW, xw_34 hW, zk_C_storm_131, xo_69, nI_add, pk_mul, Nat.add_zero, h0, hlt, r3, hc, if_true, if_false, eq_self, Bool.true_eq_false, Bool.false_eq_true]) n 0 V0 (f_he n s) (by omega) ⟨R0, F0⟩
  have hltn : ¬ nI n < nI n := nI_nlt (Nat.le_refl _) (by omega)
  have h01 : V1 0 0 = nI n := R1.1.1.trans F1.1.1.1
  refine ⟨V1, ?_, z_R_mono (by omega) R1, z_F_mono (by omega) F1⟩
  rw [a0]
  refine e1.trans ?_
  conv => lhs; rw [zk_C_storm_100]
  simp (disch := first | assumption | omega | exact Nat.le_of_ble_eq_true rfl | decide) only [xo_5, xo_10_2i, xo_10_2r, xo_10_2n, xo_55, xo_0_2, xo_6, xo_45, xo_2_1, xo_64_2, xw_64w_2 hW, xk_v, xk_n, xo_10_3i, xo_10_3r, xo_10_3n, xo_0_3, xo_49, xo_2_0, xw_16w hW, xw_16b hW, xo_54, xo_43, xo_26, xo_41, xw_64w_1 hW, xo_20, xo_11_4i, xo_11_4r, xo_11_4n, xo_1_4, xo_53, xo_15_4i, xo_15_4r, xo_15_4n, xo_15_2i, xo_15_2r, xo_15_2n, xw_17w_5 hW, xw_34 hW, zk_C_storm_137, xo_69, nI_add, pk_mul, Nat.add_zero, h01, hltn, if_true, if_false, eq_self, Bool.true_eq_false, Bool.false_eq_true]
theorem s_C_storm {G : zG} {b d n J B Bf : Nat} (hW : z_HW G b) (hd : d < b ∨ b + 41 ≤ d) (h32 : 32 ≤ d) (hD : z_kd G d = (0, 0)) (M V : zM) {s : Nat → Int32} (h : z_R false (0, 0) n B V s) (hF : z_F n J Bf s) (hB : B ≤ 80000000) (hBf : Bf ≤ 50000000) : ∃ V' M', z_call 145 [.ref b, .ref d] G (wr M b V) = some (.inl none, G, wr M' b V') ∧ M' d 0 = (f_st n (s, M d 0)).2 ∧ (∀ q, q ≠ d → M' q = M q) ∧ (∃ B', B' ≤ 90000000 ∧ z_R false (0, 0) n B' V' (f_st n (s, M d 0)).1) ∧ ∃ B', B' ≤ 60000000 ∧ z_F n J B' (f_st n (s, M d 0)).1 := by
  obtain ⟨V1, M1, w3, w4, e1, m1, o1, ⟨B1, b1, R1⟩, B2, b2, F1⟩ := l_C_storm2 (J := J) hW hd h32 hD 8 0 B Bf M V s .null .null (by omega) h hF (by omega) (by omega)
  obtain ⟨V2, e2, R2, F2⟩ := l_C_storm93 (d := d) hW M1 V1 R1 F1 (by omega) (by omega) (.int (nI 8)) w3 w4
  refine ⟨V2, M1, ?_, m1, o1, ⟨B1 + 8, by omega, R2⟩, ⟨B2 + 8, by omega, F2⟩⟩
  rw [← e2, ← e1]
  simp only [ze_C_storm, zk_C_storm_0, xo_5, xo_10_2i, xo_10_2r, xo_10_2n, xo_55, xo_0_2, xo_6, xo_45, xo_2_1, xo_64_2, xk_v, xk_n, xo_10_3i, xo_10_3r, xo_10_3n, xo_0_3, xo_49, xo_2_0, xo_16, xo_54, xo_43, xo_26, xo_41, xo_64_1, xo_20, xo_11_4i, xo_11_4r, xo_11_4n, xo_1_4, xo_53, xo_15_4i, xo_15_4r, xo_15_4n, xo_15_2i, xo_15_2r, xo_15_2n, xo_17, xo_34, xo_69]
